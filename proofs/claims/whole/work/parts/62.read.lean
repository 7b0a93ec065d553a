/-! part C: the class reads its tokens -/
/-- outside of S nothing has changed, references neither -/
def Fr2 (S : Nat → Nat → Prop) (M M' : ax_M) : Prop := (∀ k j, ¬ S k j → mI M' k j = mI M k j ∧ mR M' k j = mR M k j) ∧ M'.2.2 = M.2.2
theorem Fr2.refl (S : Nat → Nat → Prop) (M : ax_M) : Fr2 S M M := ⟨fun _ _ _ => ⟨rfl, rfl⟩, rfl⟩
theorem Fr2.trans {S : Nat → Nat → Prop} {A B C : ax_M} (p : Fr2 S A B) (q : Fr2 S B C) : Fr2 S A C := ⟨fun k j h => ⟨(q.1 k j h).1.trans (p.1 k j h).1, (q.1 k j h).2.trans (p.1 k j h).2⟩, q.2.trans p.2⟩
theorem Fr2.mono {S T : Nat → Nat → Prop} {A B : ax_M} (p : Fr2 S A B) (h : ∀ k j, S k j → T k j) : Fr2 T A B := ⟨fun k j g => p.1 k j (fun z => g (h k j z)), p.2⟩
theorem Fr2.up {S : Nat → Nat → Prop} {A B : ax_M} (p : Fr2 S A B) {k j : Nat} {v : Int} (h : S k j) : Fr2 S A (mUI B k j v) := ⟨fun a b g => by
  rw [mI_Un (fun e => g (by rw [e.1, e.2]; exact h))]
  exact p.1 a b g, p.2⟩
theorem mR_Un {M : ax_M} {k j a b : Nat} {v : Option Nat} (h : ¬ (a = k ∧ b = j)) : mR (mUR M k j v) a b = mR M a b := if_neg h
theorem mR_Us (M : ax_M) (k j : Nat) (v : Option Nat) : mR (mUR M k j v) k j = v := if_pos ⟨rfl, rfl⟩
theorem Fr2.upR {S : Nat → Nat → Prop} {A B : ax_M} (p : Fr2 S A B) {k j : Nat} {v : Option Nat} (h : S k j) : Fr2 S A (mUR B k j v) := ⟨fun a b g => by
  refine ⟨(p.1 a b g).1, ?_⟩
  rw [mR_Un (fun e => g (by rw [e.1, e.2]; exact h))]
  exact (p.1 a b g).2, p.2⟩
theorem Fr.two {S : Nat → Nat → Prop} {A B : ax_M} (p : Fr S A B) : Fr2 S A B := ⟨fun k j h => ⟨p.2 k j h, by show B.2.1 k j = A.2.1 k j; rw [p.1]⟩, by rw [p.1]⟩
/-- the kind of token t, with the limit of tokens -/
def gkk (b : Int → Int) (T : Int) (t : Nat) : Nat := if t = 400 ∧ gkc b T (gS0 b t) ≠ 49 then 50 else gkc b T (gS0 b t)
def gvv (b : Int → Int) (T : Int) (t : Nat) : Int := if gkk b T t = 48 then gnm b (gS0 b t) (gen b (gS0 b t) - gS0 b t).toNat else 0
/-- n tokens: the last one is the end, or wrong -/
def gLast (b : Int → Int) (T : Int) (n : Nat) : Prop := 1 ≤ n ∧ n ≤ 401 ∧ (gkk b T (n - 1) = 49 ∨ gkk b T (n - 1) = 50) ∧ ∀ t, t < n - 1 → gkk b T t ≠ 49 ∧ gkk b T t ≠ 50
def gTokA (M : ax_M) (b : Int → Int) (T : Int) (n : Nat) : Prop := gLast b T n ∧ mI M 153 3 = n ∧ ∀ t, t < n → mR M 154 t = some (gkk b T t) ∧ mI M 155 t = gS0 b t ∧ mI M 156 t = gvv b T t
def sT : Nat → Nat → Prop := fun k _ => 153 ≤ k ∧ k ≤ 156
theorem gff_i {W : List Int} : ∀ (n i : Nat), gff W n = some i → i < n ∧ cTb (102 + i) = W
  | 0, i, h => by cases h
  | n + 1, i, h => by
    have h : (match gff W n with | some i => some i | none => if cTb (102 + n) = W then some n else none) = some i := h
    cases e : gff W n with
    | some j =>
      rw [e] at h
      cases h
      have := gff_i n i e
      exact ⟨by omega, this.2⟩
    | none =>
      rw [e] at h
      have h : (if cTb (102 + n) = W then some n else none) = some i := h
      by_cases z : cTb (102 + n) = W
      · rw [if_pos z] at h
        cases h
        exact ⟨by omega, z⟩
      · rw [if_neg z] at h
        cases h
theorem gff_t {b : Int → Int} {s e : Int} {i : Nat} (h : gff (gwl b (e - s).toNat s) 42 = some i) (z : s < e) : i < 38 := by
  obtain ⟨h1, h2⟩ := gff_i 42 i h
  have l : ∀ i : Fin 42, 38 ≤ (i : Nat) → (cTb (102 + (i : Nat))).length = 0 := by decide
  by_cases y : i < 38
  · exact y
  · have := l ⟨i, h1⟩ (by show 38 ≤ i; omega)
    have : (cTb (102 + i)).length = 0 := this
    rw [h2, gwl_len] at this
    omega
section RDC
variable {M : ax_M} {b : Int → Int} {T : Int}
theorem gTA.fr {M' : ax_M} {S : Nat → Nat → Prop} (A : gTA M b T) (f : Fr2 S M M') (hS : ∀ k j, k = 151 ∨ k = 152 → ¬ S k j) : gTA M' b T := by
  have e1 : mI M' 151 = mI M 151 := funext (fun j => (f.1 151 j (hS _ _ (Or.inl rfl))).1)
  have e2 : mI M' 152 = mI M 152 := funext (fun j => (f.1 152 j (hS _ _ (Or.inr rfl))).1)
  obtain ⟨h1, h2, h3⟩ := A
  refine ⟨h1, by rw [e1]; exact h2, fun j => ?_⟩
  have := h3 j
  unfold fX9_byteAt at this ⊢
  rw [e1, e2]
  exact this
theorem C_keep {t : Nat} (K : Nat) (s v : Int) (ht : mI M 153 3 = t) (t4 : t < 401) : fX10_keep M K s v = some (mUI (mUI (mUI (mUR M 154 t (some K)) 155 t s) 156 t v) 153 3 ((t : Int) + 1)) := by
  have e1 : mI (mUR M 154 t (some K)) 153 3 = t := ht
  have e2 : mI (mUI (mUR M 154 t (some K)) 155 t s) 153 3 = t := by rw [mI_Un (by omega)]; exact e1
  have e3 : mI (mUI (mUI (mUR M 154 t (some K)) 155 t s) 156 t v) 153 3 = t := by rw [mI_Un (by omega)]; exact e2
  unfold fX10_keep
  rw [ht, if_neg (by omega), if_pos (by omega), Int.toNat_natCast, if_pos (by omega), e2, if_pos (by omega), Int.toNat_natCast, e3, wr_eq (by omega) (by omega)]
/-- a token more is kept -/
theorem gkeep {t : Nat} {K : Nat} {s v : Int} (h : ∀ i, i < t → mR M 154 i = some (gkk b T i) ∧ mI M 155 i = gS0 b i ∧ mI M 156 i = gvv b T i) (hK : K = gkk b T t) (hs : s = gS0 b t) (hv : v = gvv b T t) : ∀ i, i < t + 1 → mR (mUI (mUI (mUI (mUR M 154 t (some K)) 155 t s) 156 t v) 153 3 ((t : Int) + 1)) 154 i = some (gkk b T i) ∧ mI (mUI (mUI (mUI (mUR M 154 t (some K)) 155 t s) 156 t v) 153 3 ((t : Int) + 1)) 155 i = gS0 b i ∧ mI (mUI (mUI (mUI (mUR M 154 t (some K)) 155 t s) 156 t v) 153 3 ((t : Int) + 1)) 156 i = gvv b T i := by
  intro i hi
  show mR (mUR M 154 t (some K)) 154 i = _ ∧ _
  by_cases e : i = t
  · rw [e, mR_Us, mI_Un (by omega), mI_Un (by omega), mI_Us, mI_Un (by omega), mI_Us, hK, hs, hv]
    exact ⟨rfl, rfl, rfl⟩
  · obtain ⟨a, c, d⟩ := h i (by omega)
    rw [mR_Un (by omega), mI_Un (by omega), mI_Un (by omega), mI_Un (by omega), mI_Un (by omega), mI_Un (by omega), mI_Un (by omega)]
    exact ⟨a, c, d⟩
theorem gdg_run (hT : gT0 b T) {s : Int} (s0 : 0 ≤ s) (s1 : s < T) (h : gdg (b s) = true) (hl : glt (b s) = false) : ∀ i : Int, s ≤ i → i < gen b s → gdg (b i) = true := by
  intro i a c
  unfold gen at c
  rw [hl, if_neg (by decide), if_pos h] at c
  by_cases e : i = s
  · rw [e]; exact h
  · exact (gsc_f hT gdg_1 (j := s + 1) (by omega)).2.2.1 i (by omega) c
theorem gdg_lt {x : Int} (h : gdg x = true) : glt x = false := by
  unfold gdg at h
  unfold glt
  have := of_decide_eq_true h
  exact decide_eq_false (by omega)
theorem C_read (A : gTA M b T) : ∃ M' n, fX10_read M = some M' ∧ Fr2 sT M M' ∧ gTokA M' b T n := by
  have hT := A.1
  have hT1 := hT.1
  have hT2 := hT.2.1
  have key : ∃ r, lp (fun q => fX10_read_b9 q.2.2 q.1 q.2.1) lpN (0, 0, mUI M 153 3 0) = some r ∧ ∃ M' n, (r = .inl M') ∧ Fr2 sT M M' ∧ gTokA M' b T n := by
    refine lpn 401 (by omega) (fun t q => q.2.1 = (t : Int) ∧ Fr2 sT M q.2.2 ∧ mI q.2.2 153 3 = (t : Int) ∧ 0 ≤ q.1 ∧ q.1 ≤ T + 1 ∧ gS0 b t = gsk b q.1 ∧ (∀ i, i < t → mR q.2.2 154 i = some (gkk b T i) ∧ mI q.2.2 155 i = gS0 b i ∧ mI q.2.2 156 i = gvv b T i) ∧ (∀ i, i < t → gS0 b i < T ∧ gkk b T i ≠ 49 ∧ gkk b T i ≠ 50)) _ _ ⟨rfl, (Fr2.refl _ _).up ⟨by omega, by omega⟩, mI_Us _ _ _ _, Int.le_refl 0, by show (0 : Int) ≤ T + 1; omega, rfl, fun i a => by omega, fun i a => by omega⟩ ?_ ?_
    · rintro t ⟨x, y, M1⟩ ht ⟨hy, f1, hc, x0, x1, hS, h1, h2⟩
      have hy : y = (t : Int) := hy
      subst hy
      have f1 : Fr2 sT M M1 := f1
      have hc : mI M1 153 3 = (t : Int) := hc
      have hS : gS0 b t = gsk b x := hS
      have x0 : 0 ≤ x := x0
      have x1 : x ≤ T + 1 := x1
      have h1 : ∀ i, i < t → mR M1 154 i = some (gkk b T i) ∧ mI M1 155 i = gS0 b i ∧ mI M1 156 i = gvv b T i := h1
      have A1 := A.fr f1 (fun k j z => by unfold sT; omega)
      have sb := gS0_b hT t (fun i a => (h2 i a).1)
      have kee : ∀ (K : Nat) (v : Int), fX10_keep M1 K (gS0 b t) v = some (mUI (mUI (mUI (mUR M1 154 t (some K)) 155 t (gS0 b t)) 156 t v) 153 3 ((t : Int) + 1)) := fun K v => C_keep K _ v hc (by omega)
      have fk : ∀ (K : Nat) (v : Int), Fr2 sT M (mUI (mUI (mUI (mUR M1 154 t (some K)) 155 t (gS0 b t)) 156 t v) 153 3 ((t : Int) + 1)) := fun K v => (((f1.upR ⟨by omega, by omega⟩).up ⟨by omega, by omega⟩).up ⟨by omega, by omega⟩).up ⟨by omega, by omega⟩
      -- the last one
      have fin : ∀ K : Nat, K = gkk b T t → (K = 49 ∨ K = 50) → ∃ M' n, (Sum.inl (mUI (mUI (mUI (mUR M1 154 t (some K)) 155 t (gS0 b t)) 156 t 0) 153 3 ((t : Int) + 1)) : ax_M ⊕ ax_M) = .inl M' ∧ Fr2 sT M M' ∧ gTokA M' b T n := by
        intro K hK hK2
        refine ⟨_, t + 1, rfl, fk K 0, ⟨by omega, by omega, ?_, fun i hi => ⟨(h2 i (by omega)).2.1, (h2 i (by omega)).2.2⟩⟩, by rw [mI_Us]; omega, gkeep h1 hK rfl ?_⟩
        · rw [show t + 1 - 1 = t by omega, ← hK]; exact hK2
        · unfold gvv
          rw [← hK, if_neg (by omega)]
      show (∃ r, fX10_read_b9 M1 x (t : Int) = some (.inr r) ∧ _) ∨ (∃ s', fX10_read_b9 M1 x (t : Int) = some (.inl s') ∧ _)
      unfold fX10_read_b9
      rw [if_neg (by omega), C_blanks A1 x0 (by omega), bd1_s, ← hS, C_tokEnd A1 sb.1 (by omega), bd1_s, C_kind A1 sb.1 (by omega), bd1_s]
      by_cases t4 : (t : Int) = 400
      · have t4' : t = 400 := by omega
        rw [if_pos t4]
        by_cases k49 : gkc b T (gS0 b t) = 49
        · have hk : gkk b T t = 49 := by unfold gkk; rw [if_neg (fun z => z.2 k49)]; exact k49
          rw [if_pos k49, kee, bd1_s, k49]
          exact Or.inl ⟨_, rfl, fin 49 hk.symm (Or.inl rfl)⟩
        · have hk : gkk b T t = 50 := by unfold gkk; rw [if_pos ⟨t4', k49⟩]
          rw [if_neg k49, kee, bd1_s]
          exact Or.inl ⟨_, rfl, fin 50 hk.symm (Or.inr rfl)⟩
      · have hk : gkk b T t = gkc b T (gS0 b t) := by unfold gkk; rw [if_neg (fun z => t4 (by omega))]
        rw [if_neg t4]
        -- going on
        have go : ∀ v, gkc b T (gS0 b t) ≠ 49 → gkc b T (gS0 b t) ≠ 50 → v = gvv b T t → ∃ s' : Int × Int × ax_M, (some (Sum.inl (gen b (gS0 b t), (t : Int) + 1, mUI (mUI (mUI (mUR M1 154 t (some (gkc b T (gS0 b t)))) 155 t (gS0 b t)) 156 t v) 153 3 ((t : Int) + 1))) : Option ((Int × Int × ax_M) ⊕ (ax_M ⊕ ax_M))) = some (Sum.inl s') ∧ s'.2.1 = ((t + 1 : Nat) : Int) ∧ Fr2 sT M s'.2.2 ∧ mI s'.2.2 153 3 = ((t + 1 : Nat) : Int) ∧ 0 ≤ s'.1 ∧ s'.1 ≤ T + 1 ∧ gS0 b (t + 1) = gsk b s'.1 ∧ (∀ i, i < t + 1 → mR s'.2.2 154 i = some (gkk b T i) ∧ mI s'.2.2 155 i = gS0 b i ∧ mI s'.2.2 156 i = gvv b T i) ∧ (∀ i, i < t + 1 → gS0 b i < T ∧ gkk b T i ≠ 49 ∧ gkk b T i ≠ 50) := by
          intro v n49 n50 hv
          have st : gS0 b t < T := by
            by_cases z : gS0 b t < T
            · exact z
            · exact absurd (by unfold gkc; rw [if_pos (by omega)]) n49
          have gg := gen_b hT sb.1 st
          refine ⟨_, rfl, rfl, fk _ v, by rw [mI_Us]; rfl, by show 0 ≤ gen b (gS0 b t); omega, gg.2, rfl, gkeep h1 hk.symm rfl hv, fun i hi => ?_⟩
          by_cases e : i = t
          · rw [e, hk]; exact ⟨st, n49, n50⟩
          · exact h2 i (by omega)
        by_cases k48 : gkc b T (gS0 b t) = 48
        · rw [if_pos k48]
          have st : gS0 b t < T := by
            by_cases z : gS0 b t < T
            · exact z
            · unfold gkc at k48; rw [if_pos (by omega)] at k48; omega
          have gg := gen_b hT sb.1 st
          have dd : gdg (b (gS0 b t)) = true ∧ gen b (gS0 b t) - gS0 b t ≤ 6 := by
            unfold gkc at k48
            rw [if_neg (by omega)] at k48
            by_cases z : gdg (b (gS0 b t)) = true
            · rw [if_pos z] at k48
              by_cases y : gen b (gS0 b t) - gS0 b t ≤ 6
              · exact ⟨z, y⟩
              · rw [if_neg y] at k48; omega
            · rw [if_neg z] at k48
              revert k48
              split
              · rename_i i hi
                intro k48
                have := gff_t hi gg.1
                omega
              · intro k48; omega
          rw [C_number A1 sb.1 (by omega) dd.2 (by omega) (gdg_run hT sb.1 st dd.1 (gdg_lt dd.1)), bd1_s, kee, bd1_s]
          exact Or.inr (go _ (by omega) (by omega) (by unfold gvv; rw [hk, if_pos k48]))
        · rw [if_neg k48, kee, bd1_s]
          by_cases k49 : gkc b T (gS0 b t) = 49
          · rw [if_pos k49, k49]
            exact Or.inl ⟨_, rfl, fin 49 (by rw [hk, k49]) (Or.inl rfl)⟩
          · rw [if_neg k49]
            by_cases k50 : gkc b T (gS0 b t) = 50
            · rw [if_pos k50, k50]
              exact Or.inl ⟨_, rfl, fin 50 (by rw [hk, k50]) (Or.inr rfl)⟩
            · rw [if_neg k50]
              exact Or.inr (go 0 k49 k50 (by unfold gvv; rw [hk, if_neg k48]))
    · rintro ⟨x, y, M1⟩ ⟨hy, f1, hc, x0, x1, hS, h1, h2⟩
      have := (h2 400 (by omega)).2
      unfold gkk at this
      by_cases z : gkc b T (gS0 b 400) = 49
      · rw [if_neg (fun y => y.2 z)] at this
        exact absurd z this.1
      · rw [if_pos ⟨rfl, z⟩] at this
        exact absurd rfl this.2
  obtain ⟨r, e, M', n, rfl, f, k⟩ := key
  refine ⟨M', n, ?_, f, k⟩
  unfold fX10_read
  rw [e]
  rfl
end RDC
