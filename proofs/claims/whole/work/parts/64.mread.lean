/-! part C: the model reads its tokens -/
def gkQ (b : Int → Int) (t : Nat) : Int := if t = 400 then 32 else gkq b (gS0 b t)
/-- the model's tokens, as the class has them -/
def gTokB (M : ax_M) (b : Int → Int) (T : Int) (n : Nat) : Prop :=
  (∀ t, t + 1 < n → mI M 205 t = gkm (gkk b T t) ∧ mI M 207 t = gS0 b t ∧ (gkk b T t = 48 → mI M 206 t = gvv b T t)) ∧
  ((gkk b T (n - 1) = 49 ∧ mI M 205 (n - 1) = 33) ∨ (gkk b T (n - 1) = 50 ∧ (mI M 205 (n - 1) = 30 ∨ mI M 205 (n - 1) = 32))) ∧ mI M 207 (n - 1) = gS0 b (n - 1)
section MRA
variable {M : ax_M} {b : Int → Int} {T : Int}
/-- ahead of the last token -/
theorem gk_mid (hT : gT0 b T) {n : Nat} (hL : gLast b T n) (hs : ∀ t, t < n - 1 → gS0 b t < T) {t : Nat} (ht : t < n - 1) : gS0 b t < T ∧ gkQ b t = gkm (gkk b T t) ∧ 10 ≤ gkk b T t ∧ gkk b T t ≤ 48 ∧ gkQ b t ≠ 32 := by
  obtain ⟨l1, l2, l3, l4⟩ := hL
  have h4 := l4 t ht
  have st := hs t ht
  have sb := gS0_b hT t (fun i a => hs i (by omega))
  have r := (gk_rel hT sb.1 st).2
  have e : gkk b T t = gkc b T (gS0 b t) := by unfold gkk; rw [if_neg (fun z => by omega)]
  rw [e] at h4 ⊢
  obtain ⟨r1, r2, r3⟩ := r h4.2
  have q : gkQ b t = gkq b (gS0 b t) := by unfold gkQ; rw [if_neg (by omega)]
  refine ⟨st, by rw [q]; exact r1, r2, r3, ?_⟩
  rw [q, r1]
  have l : ∀ k : Fin 39, gkm (10 + (k : Nat)) ≠ 32 := by decide
  have := l ⟨gkc b T (gS0 b t) - 10, by omega⟩
  have : gkm (10 + (gkc b T (gS0 b t) - 10)) ≠ 32 := this
  rw [show 10 + (gkc b T (gS0 b t) - 10) = gkc b T (gS0 b t) by omega] at this
  exact this
theorem gS_mid (hT : gT0 b T) {n : Nat} (hL : gLast b T n) : ∀ t, t < n - 1 → gS0 b t < T := by
  intro t ht
  obtain ⟨l1, l2, l3, l4⟩ := hL
  have h4 := (l4 t ht).1
  have e : gkk b T t = gkc b T (gS0 b t) := by unfold gkk; rw [if_neg (fun z => by omega)]
  by_cases z : gS0 b t < T
  · exact z
  · exfalso
    apply h4
    rw [e]
    unfold gkc
    rw [if_pos (by omega)]
theorem Q_readAll (A : gTB M b T) {n : Nat} (hL : gLast b T n) : ∃ M', fX14_readAll M = some M' ∧ Fr sTB M M' ∧ gTokB M' b T n := by
  have hT := A.1
  have hT1 := hT.1
  have hT2 := hT.2.1
  have sm := gS_mid hT hL
  have mid := fun {t : Nat} (ht : t < n - 1) => gk_mid hT hL sm ht
  obtain ⟨l1, l2, l3, l4⟩ := hL
  have key : ∃ r, lp (fun q => fX14_readAll_b8 q.2.2 q.1 q.2.1) lpN (gsk b 0, 0, M) = some r ∧ ∃ k : Nat, r.1 = (k : Int) ∧ k ≤ 401 ∧ Fr sTB M r.2 ∧ (∀ i, i < k → gS0 b i < T ∧ mI r.2 205 i = gkQ b i ∧ mI r.2 207 i = gS0 b i ∧ (gkq b (gS0 b i) = 31 → mI r.2 206 i = gnm b (gS0 b i) (gen b (gS0 b i) - gS0 b i).toNat)) ∧ (T ≤ gS0 b k ∨ (1 ≤ k ∧ gkQ b (k - 1) = 32)) := by
    refine lpn 401 (by omega) (fun k q => q.2.1 = (k : Int) ∧ q.1 = gS0 b k ∧ Fr sTB M q.2.2 ∧ (∀ i, i < k → gS0 b i < T ∧ mI q.2.2 205 i = gkQ b i ∧ mI q.2.2 207 i = gS0 b i ∧ (gkq b (gS0 b i) = 31 → mI q.2.2 206 i = gnm b (gS0 b i) (gen b (gS0 b i) - gS0 b i).toNat))) _ _ ⟨rfl, rfl, Fr.refl _ _, fun i a => by omega⟩ ?_ ?_
    · rintro k ⟨x, y, M1⟩ hk ⟨hy, hx, f1, h1⟩
      have hy : y = (k : Int) := hy
      subst hy
      have hx : x = gS0 b k := hx
      subst hx
      have f1 : Fr sTB M M1 := f1
      have h1 : ∀ i, i < k → gS0 b i < T ∧ mI M1 205 i = gkQ b i ∧ mI M1 207 i = gS0 b i ∧ (gkq b (gS0 b i) = 31 → mI M1 206 i = gnm b (gS0 b i) (gen b (gS0 b i) - gS0 b i).toNat) := h1
      have A1 : gTB M1 b T := A.fr f1 (fun k j z => by unfold sTB; omega)
      have sb := gS0_b hT k (fun i a => (h1 i a).1)
      show (∃ r, fX14_readAll_b8 M1 (gS0 b k) (k : Int) = some (.inr r) ∧ _) ∨ (∃ s', fX14_readAll_b8 M1 (gS0 b k) (k : Int) = some (.inl s') ∧ _)
      unfold fX14_readAll_b8
      rw [A1.2.1]
      by_cases st : gS0 b k < T
      · rw [if_pos st]
        obtain ⟨M2, e2, f2, g1, g2, g3⟩ := Q_readTok A1 sb.1 st (k := (k : Int)) (by omega) (by omega)
        rw [Int.toNat_natCast] at f2 g1 g2 g3
        have gg := gen_b hT sb.1 st
        have A2 : gTB M2 b T := A1.fr f2 (fun k j z => by omega)
        have hsk := Q_skip A2 (j := gen b (gS0 b k)) (by omega) (by omega)
        have old : ∀ i, i < k → gS0 b i < T ∧ mI M2 205 i = gkQ b i ∧ mI M2 207 i = gS0 b i ∧ (gkq b (gS0 b i) = 31 → mI M2 206 i = gnm b (gS0 b i) (gen b (gS0 b i) - gS0 b i).toNat) := fun i hi => by
          rw [f2.2 205 i (by omega), f2.2 206 i (by omega), f2.2 207 i (by omega)]
          exact h1 i hi
        have f12 : Fr sTB M M2 := f1.trans (f2.mono (fun a c z => z.1))
        by_cases k0 : k = 0
        · subst k0
          rw [if_pos (show ((0 : Nat) : Int) = 0 from rfl), e2, bd2_s, hsk, bd1_s]
          refine Or.inr ⟨(_, _, _), rfl, rfl, rfl, f12, fun i hi => ?_⟩
          obtain rfl : i = 0 := by omega
          exact ⟨st, by rw [show gkQ b 0 = gkq b (gS0 b 0) from rfl]; exact g1, g2, g3⟩
        · rw [if_neg (by omega), wr_eq (x := (k : Int) - 1) (by omega) (by omega), if_pos (by omega), show ((k : Int) - 1).toNat = k - 1 by omega, (h1 (k - 1) (by omega)).2.1]
          by_cases z : gkQ b (k - 1) = 32
          · rw [if_pos z]
            exact Or.inl ⟨_, rfl, k, rfl, by omega, f1, h1, Or.inr ⟨by omega, z⟩⟩
          · rw [if_neg z, e2, bd2_s, hsk, bd1_s]
            by_cases k4 : k = 400
            · rw [if_pos (by omega), Int.toNat_natCast]
              refine Or.inr ⟨(_, _, _), rfl, rfl, rfl, f12.up ⟨by omega, by omega⟩, fun i hi => ?_⟩
              show gS0 b i < T ∧ mI (mUI M2 205 k 32) 205 i = gkQ b i ∧ mI (mUI M2 205 k 32) 207 i = gS0 b i ∧ (gkq b (gS0 b i) = 31 → mI (mUI M2 205 k 32) 206 i = gnm b (gS0 b i) (gen b (gS0 b i) - gS0 b i).toNat)
              rw [mI_Un (a := 207) (by omega), mI_Un (a := 206) (by omega)]
              by_cases e : i = k
              · rw [e, mI_Us]
                exact ⟨st, by unfold gkQ; rw [if_pos k4], g2, g3⟩
              · rw [mI_Un (by omega)]
                exact old i (by omega)
            · rw [if_neg (by omega), wr_eq (x := (k : Int) + 1) (by omega) (by omega)]
              refine Or.inr ⟨(_, _, _), rfl, rfl, rfl, f12, fun i hi => ?_⟩
              by_cases e : i = k
              · rw [e]
                exact ⟨st, by unfold gkQ; rw [if_neg k4]; exact g1, g2, g3⟩
              · exact old i (by omega)
      · rw [if_neg st]
        exact Or.inl ⟨_, rfl, k, rfl, by omega, f1, h1, Or.inl (by omega)⟩
    · rintro ⟨x, y, M1⟩ ⟨hy, hx, f1, h1⟩
      have hy : y = ((401 : Nat) : Int) := hy
      subst hy
      have hx : x = gS0 b 401 := hx
      subst hx
      have f1 : Fr sTB M M1 := f1
      have A1 : gTB M1 b T := A.fr f1 (fun k j z => by unfold sTB; omega)
      refine ⟨(((401 : Nat) : Int), M1), ?_, 401, rfl, by omega, f1, h1, Or.inr ⟨by omega, rfl⟩⟩
      show fX14_readAll_b8 M1 (gS0 b 401) ((401 : Nat) : Int) = _
      have h1 : mI M1 205 400 = gkQ b 400 := (h1 400 (by omega)).2.1
      unfold fX14_readAll_b8
      rw [A1.2.1]
      by_cases st : gS0 b 401 < T
      · rw [if_pos st, if_neg (by omega), wr_eq (by omega) (by omega), if_pos (by omega), show (((401 : Nat) : Int) - 1).toNat = 400 from rfl, h1, if_pos (show gkQ b 400 = 32 from rfl)]
      · rw [if_neg st]
  obtain ⟨⟨r1, M1⟩, e, k, hr, k4, f1, h1, hend⟩ := key
  have hr : r1 = (k : Int) := hr
  subst hr
  have f1 : Fr sTB M M1 := f1
  have h1 : ∀ i, i < k → gS0 b i < T ∧ mI M1 205 i = gkQ b i ∧ mI M1 207 i = gS0 b i ∧ (gkq b (gS0 b i) = 31 → mI M1 206 i = gnm b (gS0 b i) (gen b (gS0 b i) - gS0 b i).toNat) := h1
  have kn : n - 1 ≤ k := by
    by_cases z : n - 1 ≤ k
    · exact z
    · exfalso
      rcases hend with y | ⟨y1, y2⟩
      · have := (mid (t := k) (by omega)).1
        omega
      · exact (mid (t := k - 1) (by omega)).2.2.2.2 y2
  have sT : gS0 b (n - 1) ≤ T := gS0_T hT (n - 1) (fun i a => sm i a)
  have sb := gS0_b hT (n - 1) (fun i a => sm i a)
  have e205 : ∀ i, i < k → mI (mUI (mUI M1 205 k 33) 207 k T) 205 i = gkQ b i := fun i hi => by rw [mI_Un (by omega), mI_Un (by omega)]; exact (h1 i hi).2.1
  have e207 : ∀ i, i < k → mI (mUI (mUI M1 205 k 33) 207 k T) 207 i = gS0 b i := fun i hi => by rw [mI_Un (by omega), mI_Un (by omega)]; exact (h1 i hi).2.2.1
  have A1 : gTB M1 b T := A.fr f1 (fun k j z => by unfold sTB; omega)
  refine ⟨mUI (mUI M1 205 k 33) 207 k T, ?_, (f1.up ⟨by omega, by omega⟩).up ⟨by omega, by omega⟩, ⟨fun t ht => ?_, ?_, ?_⟩⟩
  · unfold fX14_readAll
    rw [Q_skip A (Int.le_refl 0) (by omega), bd1_s, e, bd1_s]
    show (if 0 ≤ (k : Int) ∧ (k : Int) < 402 then some (mUI (mUI M1 205 (k : Int).toNat 33) 207 (k : Int).toNat (mI (mUI M1 205 (k : Int).toNat 33) 203 2)) else none) = _
    rw [if_pos (by omega), Int.toNat_natCast, mI_Un (a := 203) (by omega), A1.2.1]
  · obtain ⟨m1, m2, m3, m4, m5⟩ := mid (t := t) (by omega)
    refine ⟨by rw [e205 t (by omega)]; exact m2, e207 t (by omega), fun z => ?_⟩
    have q : gkQ b t = gkq b (gS0 b t) := by unfold gkQ; rw [if_neg (by omega)]
    rw [mI_Un (by omega), mI_Un (by omega), (h1 t (by omega)).2.2.2 (by rw [← q, m2, z]; rfl)]
    unfold gvv
    rw [if_pos z]
  · rcases l3 with z | z
    · left
      refine ⟨z, ?_⟩
      have kc : gkc b T (gS0 b (n - 1)) = 49 := by
        unfold gkk at z
        by_cases y : n - 1 = 400 ∧ gkc b T (gS0 b (n - 1)) ≠ 49
        · rw [if_pos y] at z; omega
        · rw [if_neg y] at z; exact z
      have : T ≤ gS0 b (n - 1) := by
        by_cases y : T ≤ gS0 b (n - 1)
        · exact y
        · have r := gk_rel hT sb.1 (by omega)
          have := (r.2 (by omega)).2.2
          omega
      have : k = n - 1 := by
        by_cases y : k = n - 1
        · exact y
        · have := (h1 (n - 1) (by omega)).1
          omega
      rw [this, mI_Un (by omega), mI_Us]
    · right
      refine ⟨z, ?_⟩
      have kc : gkc b T (gS0 b (n - 1)) ≠ 49 := by
        intro y
        unfold gkk at z
        rw [if_neg (fun q => q.2 y)] at z
        omega
      have st : gS0 b (n - 1) < T := by
        by_cases y : gS0 b (n - 1) < T
        · exact y
        · exact absurd (by unfold gkc; rw [if_pos (by omega)]) kc
      have : n - 1 < k := by
        by_cases y : n - 1 < k
        · exact y
        · exfalso
          have : k = n - 1 := by omega
          rcases hend with y | ⟨y1, y2⟩
          · rw [this] at y; omega
          · exact (mid (t := k - 1) (by omega)).2.2.2.2 y2
      rw [e205 _ this]
      unfold gkQ
      by_cases y : n - 1 = 400
      · rw [if_pos y]; exact Or.inr rfl
      · rw [if_neg y]
        have kk : gkc b T (gS0 b (n - 1)) = 50 := by
          unfold gkk at z
          rw [if_neg (fun q => y q.1)] at z
          exact z
        exact (gk_rel hT sb.1 st).1 kk
  · by_cases y : n - 1 < k
    · exact e207 _ y
    · have : k = n - 1 := by omega
      rw [this, mI_Us]
      rcases hend with q | ⟨y1, y2⟩
      · rw [this] at q; omega
      · exact absurd y2 (mid (t := k - 1) (by omega)).2.2.2.2
end MRA
