/-! part C: the tokens of a tape -/
def gsc (p : Int → Bool) (b : Int → Int) : Nat → Int → Int
  | 0, j => j
  | f + 1, j => if p (b j) = true then gsc p b f (j + 1) else j
theorem gsc_is {p : Int → Bool} {b : Int → Int} : ∀ (f : Nat) (j e : Int), j ≤ e → (∀ i : Int, j ≤ i → i < e → p (b i) = true) → p (b e) = false → e - j < f → gsc p b f j = e
  | 0, j, e, h, _, _, hf => by omega
  | f + 1, j, e, h, h1, h2, hf => by
    show (if p (b j) = true then gsc p b f (j + 1) else j) = e
    by_cases z : j = e
    · rw [z, h2, if_neg (by decide)]
    · rw [if_pos (h1 j (Int.le_refl _) (by omega))]
      exact gsc_is f (j + 1) e (by omega) (fun i a c => h1 i (by omega) c) h2 (by omega)
def gbl (x : Int) : Bool := x == 32 || x == 10
def glt (x : Int) : Bool := decide (97 ≤ x ∧ x ≤ 122)
def gdg (x : Int) : Bool := decide (48 ≤ x ∧ x ≤ 57)
def gld (x : Int) : Bool := glt x || gdg x
def gsk (b : Int → Int) (j : Int) : Int := gsc gbl b 3000 j
/-- the end of the token that begins at s -/
def gen (b : Int → Int) (s : Int) : Int := if glt (b s) = true then gsc gld b 3000 (s + 1) else if gdg (b s) = true then gsc gdg b 3000 (s + 1) else if (b s = 60 ∨ b s = 62) ∧ b (s + 1) = 61 then s + 2 else s + 1
def gwl (b : Int → Int) : Nat → Int → List Int
  | 0, _ => []
  | n + 1, s => b s :: gwl b n (s + 1)
def gff (W : List Int) : Nat → Option Nat
  | 0 => none
  | n + 1 => match gff W n with
    | some i => some i
    | none => if cTb (102 + n) = W then some n else none
/-- the class's kind of the token at s -/
def gkc (b : Int → Int) (T s : Int) : Nat := if T ≤ s then 49 else if gdg (b s) = true then (if gen b s - s ≤ 6 then 48 else 50) else match gff (gwl b (gen b s - s).toNat s) 42 with
  | some i => 10 + i
  | none => 50
def gnm (b : Int → Int) (s : Int) : Nat → Int
  | 0 => 0
  | k + 1 => gnm b s k * 10 + (b (s + k) - 48)
/-- where token t begins -/
def gS0 (b : Int → Int) : Nat → Int
  | 0 => gsk b 0
  | t + 1 => gsk b (gen b (gS0 b t))
def gT0 (b : Int → Int) (T : Int) : Prop := 0 ≤ T ∧ T ≤ 2000 ∧ ∀ j, T ≤ j → b j = -1
section TOK
variable {b : Int → Int} {T : Int}
theorem gbl_1 : gbl (-1) = false := by decide
theorem glt_1 : glt (-1) = false := by decide
theorem gdg_1 : gdg (-1) = false := by decide
theorem gld_1 : gld (-1) = false := by decide
/-- a scan stops, at the end of the tape at the latest -/
theorem gsc_ex {p : Int → Bool} (hT : gT0 b T) (hp : p (-1) = false) : ∀ (d : Nat) (j : Int), (T - j).toNat ≤ d → ∃ e, j ≤ e ∧ (e ≤ T ∨ e = j) ∧ (∀ i : Int, j ≤ i → i < e → p (b i) = true) ∧ p (b e) = false
  | 0, j, h => ⟨j, Int.le_refl _, Or.inr rfl, fun i a c => by omega, by rw [hT.2.2 j (by omega)]; exact hp⟩
  | d + 1, j, h => by
    by_cases z : p (b j) = true
    · have hj : j < T := by
        by_cases y : j < T
        · exact y
        · rw [hT.2.2 j (by omega), hp] at z
          cases z
      obtain ⟨e, a, c, f, g⟩ := gsc_ex hT hp d (j + 1) (by omega)
      refine ⟨e, by omega, Or.inl (by omega), fun i x y => ?_, g⟩
      by_cases q : i = j
      · rw [q]; exact z
      · exact f i (by omega) y
    · refine ⟨j, Int.le_refl _, Or.inr rfl, fun i a c => by omega, ?_⟩
      cases hh : p (b j) with
      | false => rfl
      | true => exact absurd hh z
theorem gsc_f {p : Int → Bool} (hT : gT0 b T) (hp : p (-1) = false) {j : Int} (j0 : 0 ≤ j) : j ≤ gsc p b 3000 j ∧ (gsc p b 3000 j ≤ T ∨ gsc p b 3000 j = j) ∧ (∀ i : Int, j ≤ i → i < gsc p b 3000 j → p (b i) = true) ∧ p (b (gsc p b 3000 j)) = false := by
  obtain ⟨e, a, c, f, g⟩ := gsc_ex hT hp _ j (Nat.le_refl _)
  have := gsc_is 3000 j e a f g (by have := hT.2.1; omega)
  rw [this]
  exact ⟨a, c, f, g⟩
theorem gen_b (hT : gT0 b T) {s : Int} (s0 : 0 ≤ s) (s1 : s < T) : s < gen b s ∧ gen b s ≤ T + 1 := by
  unfold gen
  split
  · have := gsc_f hT gld_1 (j := s + 1) (by omega); omega
  · split
    · have := gsc_f hT gdg_1 (j := s + 1) (by omega); omega
    · split <;> omega
theorem gS0_b (hT : gT0 b T) : ∀ t : Nat, (∀ i : Nat, i < t → gS0 b i < T) → 0 ≤ gS0 b t ∧ gS0 b t ≤ T + 1
  | 0, _ => by
    have := gsc_f hT gbl_1 (j := 0) (Int.le_refl 0)
    show 0 ≤ gsc gbl b 3000 0 ∧ gsc gbl b 3000 0 ≤ T + 1
    have := hT.1
    omega
  | t + 1, h => by
    have ih := gS0_b hT t (fun i a => h i (by omega))
    have g := gen_b hT ih.1 (h t (by omega))
    have := gsc_f hT gbl_1 (j := gen b (gS0 b t)) (by omega)
    show 0 ≤ gsc gbl b 3000 (gen b (gS0 b t)) ∧ gsc gbl b 3000 (gen b (gS0 b t)) ≤ T + 1
    omega
theorem gwl_len : ∀ (n : Nat) (s : Int), (gwl b n s).length = n
  | 0, _ => rfl
  | n + 1, s => by show (gwl b n (s + 1)).length + 1 = n + 1; rw [gwl_len n (s + 1)]
theorem gwl_get : ∀ (n : Nat) (s : Int) (k : Nat), k < n → (gwl b n s).getD k 0 = b (s + k)
  | 0, _, k, h => by omega
  | n + 1, s, 0, _ => by show b s = b (s + ((0 : Nat) : Int)); rw [show s + ((0 : Nat) : Int) = s by omega]
  | n + 1, s, k + 1, h => by
    show (gwl b n (s + 1)).getD k 0 = _
    rw [gwl_get n (s + 1) k (by omega), show s + 1 + (k : Int) = s + ((k + 1 : Nat) : Int) by omega]
/-- a text is the token's, when they agree place by place -/
theorem gwl_eq {l : List Int} : ∀ (n : Nat) (s : Int), l = gwl b n s ↔ (l.length = n ∧ ∀ k : Nat, k < n → l.getD k 0 = b (s + k)) := by
  intro n s
  constructor
  · rintro rfl
    exact ⟨gwl_len n s, fun k h => gwl_get n s k h⟩
  · induction n generalizing l s with
    | zero =>
      rintro ⟨h, _⟩
      exact List.length_eq_zero_iff.mp h
    | succ n ih =>
      rintro ⟨h, h1⟩
      cases l with
      | nil => cases h
      | cons x l =>
        have h0 := h1 0 (by omega)
        have h0 : x = b (s + ((0 : Nat) : Int)) := h0
        have e : l = gwl b n (s + 1) := ih (s + 1) ⟨by have : l.length + 1 = n + 1 := h; omega, fun k hk => by
          have h2 := h1 (k + 1) (by omega)
          have h2 : l.getD k 0 = b (s + ((k + 1 : Nat) : Int)) := h2
          rw [h2, show s + 1 + (k : Int) = s + ((k + 1 : Nat) : Int) by omega]⟩
        show x :: l = b s :: gwl b n (s + 1)
        rw [e, h0, show s + ((0 : Nat) : Int) = s by omega]
theorem gnm_b {s : Int} : ∀ k : Nat, k ≤ 6 → (∀ i : Nat, i < k → gdg (b (s + i)) = true) → 0 ≤ gnm b s k ∧ gnm b s k < 10 ^ k
  | 0, _, _ => by show (0 : Int) ≤ 0 ∧ (0 : Int) < 10 ^ 0; omega
  | k + 1, hk, h => by
    have ih := gnm_b k (by omega) (fun i a => h i (by omega))
    have hd := h k (by omega)
    have hd : 48 ≤ b (s + (k : Int)) ∧ b (s + (k : Int)) ≤ 57 := by unfold gdg at hd; exact of_decide_eq_true hd
    show 0 ≤ gnm b s k * 10 + (b (s + k) - 48) ∧ gnm b s k * 10 + (b (s + k) - 48) < 10 ^ (k + 1)
    rw [Int.pow_succ]
    omega
theorem gnm_b6 {s : Int} {k : Nat} (hk : k ≤ 6) (h : ∀ i : Nat, i < k → gdg (b (s + i)) = true) : 0 ≤ gnm b s k ∧ gnm b s k ≤ 999999 := by
  have := gnm_b k hk h
  rcases (show k = 0 ∨ k = 1 ∨ k = 2 ∨ k = 3 ∨ k = 4 ∨ k = 5 ∨ k = 6 by omega) with rfl | rfl | rfl | rfl | rfl | rfl | rfl <;> omega
end TOK
/-! the class -/
def gTA (M : ax_M) (b : Int → Int) (T : Int) : Prop := gT0 b T ∧ mI M 151 1 = T ∧ ∀ j, fX9_byteAt M j = b j
section CTK
variable {M : ax_M} {b : Int → Int} {T : Int}
theorem C_isBlank (M : ax_M) (x : Int) : fX10_isBlank M x = if gbl x = true then 1 else 0 := by
  unfold fX10_isBlank gbl
  by_cases h1 : x = 32
  · rw [if_pos h1, h1]; rfl
  · rw [if_neg h1]
    by_cases h2 : x = 10
    · rw [if_pos h2, h2]; rfl
    · rw [if_neg h2, if_neg (by simp [h1, h2])]
theorem C_isLetter (M : ax_M) (x : Int) : fX10_isLetter M x = if glt x = true then 1 else 0 := by
  unfold fX10_isLetter glt
  by_cases h1 : x < 97
  · rw [if_pos h1, if_neg (by simp; omega)]
  · rw [if_neg h1]
    by_cases h2 : 122 < x
    · rw [if_pos h2, if_neg (by simp; omega)]
    · rw [if_neg h2, if_pos (by simp; omega)]
theorem C_isDigit (M : ax_M) (x : Int) : fX10_isDigit M x = if gdg x = true then 1 else 0 := by
  unfold fX10_isDigit gdg
  by_cases h1 : x < 48
  · rw [if_pos h1, if_neg (by simp; omega)]
  · rw [if_neg h1]
    by_cases h2 : 57 < x
    · rw [if_pos h2, if_neg (by simp; omega)]
    · rw [if_neg h2, if_pos (by simp; omega)]
/-- a loop that scans -/
theorem scan_lp {B : Int → Option (Int ⊕ Int)} {p : Int → Bool} (hT : gT0 b T) (hp : p (-1) = false) {j : Int} (j0 : 0 ≤ j) (hB : ∀ s, 0 ≤ s → s ≤ 3000 → B s = if p (b s) = true then some (.inl (s + 1)) else some (.inr s)) (j1 : j ≤ 2500) : lp B lpN j = some (gsc p b 3000 j) := by
  obtain ⟨a, c, f, g⟩ := gsc_f hT hp j0
  generalize gsc p b 3000 j = e at *
  have he : e ≤ 3000 := by have := hT.2.1; omega
  have key : ∃ r, lp B lpN j = some r ∧ r = e := by
    refine lpm (fun s => j ≤ s ∧ s ≤ e) (fun s => (e - s).toNat) _ j ⟨Int.le_refl _, a⟩ (by omega) ?_
    rintro s ⟨h1, h2⟩
    rw [hB s (by omega) (by omega)]
    by_cases z : s = e
    · left
      rw [z, g, if_neg (by decide)]
      exact ⟨e, rfl, rfl⟩
    · right
      rw [if_pos (f s h1 (by omega))]
      exact ⟨s + 1, rfl, ⟨by omega, by omega⟩, by omega⟩
  obtain ⟨r, er, rfl⟩ := key
  exact er
theorem C_blanks (A : gTA M b T) {j : Int} (j0 : 0 ≤ j) (j1 : j ≤ 2500) : fX10_behindBlanks M j = some (gsk b j) := by
  obtain ⟨hT, hl, hb⟩ := A
  have e : lp (fun s => fX10_behindBlanks_b2 M s) lpN j = some (gsk b j) := by
    refine scan_lp hT gbl_1 j0 (fun s s0 s1 => ?_) j1
    show fX10_behindBlanks_b2 M s = _
    unfold fX10_behindBlanks_b2
    rw [show fX9_length M = T from hl, hb, C_isBlank]
    by_cases h1 : s < T
    · rw [if_pos h1]
      by_cases h2 : gbl (b s) = true
      · rw [if_pos h2, if_neg (by decide), if_pos h2]
      · rw [if_neg h2, if_pos rfl, if_neg h2]
    · rw [if_neg h1, hT.2.2 s (by omega), gbl_1, if_neg (by decide)]
  unfold fX10_behindBlanks
  rw [e]
  rfl
theorem C_tokEnd (A : gTA M b T) {s : Int} (s0 : 0 ≤ s) (s1 : s ≤ 2100) : fX10_behindToken M s = some (gen b s) := by
  obtain ⟨hT, hl, hb⟩ := A
  have e1 : wr (s + 1) = s + 1 := wr_eq (by omega) (by omega)
  have e2 : wr (s + 1 + 1) = s + 1 + 1 := wr_eq (by omega) (by omega)
  unfold fX10_behindToken gen
  rw [hb, C_isLetter, C_isDigit, e1, e2, hb]
  by_cases h1 : glt (b s) = true
  · rw [if_pos h1, if_neg (by decide), if_pos h1]
    have e : lp (fun s => fX10_behindToken_b17 M s) lpN (s + 1) = some (gsc gld b 3000 (s + 1)) := by
      refine scan_lp hT gld_1 (by omega) (fun s s0 s1 => ?_) (by omega)
      show fX10_behindToken_b17 M s = _
      unfold fX10_behindToken_b17
      rw [show fX9_length M = T from hl, hb, C_isLetter, C_isDigit]
      by_cases h1 : s < T
      · rw [if_pos h1]
        by_cases h2 : glt (b s) = true
        · rw [if_pos h2, if_neg (by decide), if_pos (by unfold gld; rw [h2]; rfl)]
        · rw [if_neg h2, if_pos rfl]
          by_cases h3 : gdg (b s) = true
          · rw [if_pos h3, if_neg (by decide), if_pos (by unfold gld; rw [h3]; simp)]
          · rw [if_neg h3, if_pos rfl, if_neg (by unfold gld; simp [h2, h3])]
      · rw [if_neg h1, hT.2.2 s (by omega), gld_1, if_neg (by decide)]
    rw [e]
    rfl
  · rw [if_neg h1, if_pos rfl, if_neg h1]
    by_cases h2 : gdg (b s) = true
    · rw [if_pos h2, if_neg (by decide), if_pos h2]
      have e : lp (fun s => fX10_behindToken_b60 M s) lpN (s + 1) = some (gsc gdg b 3000 (s + 1)) := by
        refine scan_lp hT gdg_1 (by omega) (fun s s0 s1 => ?_) (by omega)
        show fX10_behindToken_b60 M s = _
        unfold fX10_behindToken_b60
        rw [show fX9_length M = T from hl, hb, C_isDigit]
        by_cases h1 : s < T
        · rw [if_pos h1]
          by_cases h3 : gdg (b s) = true
          · rw [if_pos h3, if_neg (by decide), if_pos h3]
          · rw [if_neg h3, if_pos rfl, if_neg h3]
        · rw [if_neg h1, hT.2.2 s (by omega), gdg_1, if_neg (by decide)]
      rw [e]
      rfl
    · rw [if_neg h2, if_pos rfl, if_neg h2]
      by_cases h3 : b s = 60
      · rw [if_pos h3]
        by_cases h4 : b (s + 1) = 61
        · rw [if_pos h4, if_pos ⟨Or.inl h3, h4⟩, show s + 1 + 1 = s + 2 by omega]
        · rw [if_neg h4, if_neg (fun z => h4 z.2)]
      · rw [if_neg h3]
        by_cases h5 : b s = 62
        · rw [if_pos h5]
          by_cases h4 : b (s + 1) = 61
          · rw [if_pos h4, if_pos ⟨Or.inr h5, h4⟩, show s + 1 + 1 = s + 2 by omega]
          · rw [if_neg h4, if_neg (fun z => h4 z.2)]
        · rw [if_neg h5, if_neg (fun z => z.1.elim h3 h5)]
theorem C_written (A : gTA M b T) {s e : Int} (s0 : 0 ≤ s) (se : s < e) (e1 : e ≤ 3000) {i : Nat} (hi : i < 42) : fX5_isWrittenAt M (10 + i) s e = some (if cTb (102 + i) = gwl b (e - s).toNat s then 1 else 0) := by
  obtain ⟨hT, hl, hb⟩ := A
  have hlen := @cTb_len (102 + i)
  have e0 : 10 + i + 50 + 42 = 102 + i := by omega
  unfold fX5_isWrittenAt
  rw [e0, wr_eq (x := e - s) (by omega) (by omega)]
  by_cases h1 : ((cTb (102 + i)).length : Int) = e - s
  · rw [if_pos h1]
    have key : ∃ r, lp (fun q => fX5_isWrittenAt_b18 M (10 + i) s q) lpN 0 = some r ∧ ((r = .inl () ∧ ¬ cTb (102 + i) = gwl b (e - s).toNat s) ∨ (r = .inr () ∧ cTb (102 + i) = gwl b (e - s).toNat s)) := by
      refine lpn (cTb (102 + i)).length (by omega) (fun k q => q = (k : Int) ∧ ∀ m : Nat, m < k → (cTb (102 + i)).getD m 0 = b (s + m)) _ _ ⟨rfl, fun m h => by omega⟩ ?_ ?_
      · rintro k x hk ⟨hx, h2⟩
        subst hx
        show (∃ r, fX5_isWrittenAt_b18 M (10 + i) s (k : Int) = some (.inr r) ∧ _) ∨ (∃ s', fX5_isWrittenAt_b18 M (10 + i) s (k : Int) = some (.inl s') ∧ _)
        unfold fX5_isWrittenAt_b18
        rw [e0, if_pos (by omega), if_pos (show 0 ≤ (k : Int) ∧ (k : Int) < ((cTb (102 + i)).length : Int) by omega), wr_eq (x := s + (k : Int)) (by omega) (by omega), hb, Int.toNat_natCast]
        by_cases h3 : (cTb (102 + i)).getD k 0 = b (s + (k : Int))
        · rw [if_pos h3]
          refine Or.inr ⟨_, rfl, by show (k : Int) + 1 = ((k + 1 : Nat) : Int); omega, fun m hm => ?_⟩
          by_cases q : m = k
          · rw [q]; exact h3
          · exact h2 m (by omega)
        · rw [if_neg h3]
          refine Or.inl ⟨_, rfl, Or.inl ⟨rfl, fun z => h3 ?_⟩⟩
          exact ((gwl_eq _ _).mp z).2 k (by omega)
      · rintro x ⟨hx, h2⟩
        subst hx
        refine ⟨.inr (), ?_, Or.inr ⟨rfl, (gwl_eq _ _).mpr ⟨by omega, fun k hk => h2 k (by omega)⟩⟩⟩
        show fX5_isWrittenAt_b18 M (10 + i) s ((cTb (102 + i)).length : Int) = _
        unfold fX5_isWrittenAt_b18
        rw [e0, if_neg (by omega)]
    obtain ⟨r, er, q⟩ := key
    rw [er]
    rcases q with ⟨rfl, q⟩ | ⟨rfl, q⟩
    · rw [if_neg q]; rfl
    · rw [if_pos q]; rfl
  · rw [if_neg h1, if_neg (fun z => h1 (by have := ((gwl_eq _ _).mp z).1; omega))]
theorem C_kind (A : gTA M b T) {s : Int} (s0 : 0 ≤ s) (s1 : s ≤ 2100) : fX10_kindBetween M s (gen b s) = some (gkc b T s) := by
  have A' := A
  obtain ⟨hT, hl, hb⟩ := A
  unfold fX10_kindBetween gkc
  rw [show fX9_length M = T from hl]
  by_cases h0 : s < T
  · have hg := gen_b hT s0 h0
    have hT2 := hT.2.1
    rw [if_pos h0, hb, C_isDigit, if_neg (show ¬ T ≤ s by omega)]
    by_cases h1 : gdg (b s) = true
    · rw [if_pos h1, if_neg (by decide), if_pos h1, wr_eq (x := gen b s - s) (by omega) (by omega)]
      by_cases h2 : gen b s - s ≤ 6
      · rw [if_neg (by omega), if_pos h2]
      · rw [if_pos (by omega), if_neg h2]
    · rw [if_neg h1, if_pos rfl, if_neg h1]
      have key : ∃ r, lp (fun q => fX10_kindBetween_b52 M s (gen b s) 42 q) lpN 0 = some r ∧ ((∃ i, r = .inl (10 + i) ∧ gff (gwl b (gen b s - s).toNat s) 42 = some i) ∨ (r = .inr () ∧ gff (gwl b (gen b s - s).toNat s) 42 = none)) := by
        have st : ∀ i j : Nat, gff (gwl b (gen b s - s).toNat s) i = some j → ∀ d : Nat, gff (gwl b (gen b s - s).toNat s) (i + d) = some j := by
          intro i j h d
          induction d with
          | zero => exact h
          | succ d ih =>
            show (match gff (gwl b (gen b s - s).toNat s) (i + d) with | some i => some i | none => if cTb (102 + (i + d)) = gwl b (gen b s - s).toNat s then some (i + d) else none) = some j
            rw [ih]
        refine lpn 42 (by omega) (fun i q => q = (i : Int) ∧ gff (gwl b (gen b s - s).toNat s) i = none) _ _ ⟨rfl, rfl⟩ ?_ ?_
        · rintro i x hi ⟨hx, h2⟩
          subst hx
          have sg : gff (gwl b (gen b s - s).toNat s) (i + 1) = if cTb (102 + i) = gwl b (gen b s - s).toNat s then some i else none := by
            show (match gff (gwl b (gen b s - s).toNat s) i with | some i => some i | none => if cTb (102 + i) = gwl b (gen b s - s).toNat s then some i else none) = _
            rw [h2]
          show (∃ r, fX10_kindBetween_b52 M s (gen b s) 42 (i : Int) = some (.inr r) ∧ _) ∨ (∃ s', fX10_kindBetween_b52 M s (gen b s) 42 (i : Int) = some (.inl s') ∧ _)
          unfold fX10_kindBetween_b52
          rw [if_pos (by omega), if_pos (show 0 ≤ (i : Int) ∧ (i : Int) < 42 by omega), Int.toNat_natCast, C_written A' s0 hg.1 (by omega) hi, bd1_s]
          by_cases h3 : cTb (102 + i) = gwl b (gen b s - s).toNat s
          · rw [if_pos h3, if_neg (by omega)]
            rw [if_pos h3] at sg
            have := st _ _ sg (42 - (i + 1))
            rw [show i + 1 + (42 - (i + 1)) = 42 by omega] at this
            exact Or.inl ⟨_, rfl, Or.inl ⟨i, rfl, this⟩⟩
          · rw [if_neg h3, if_pos rfl]
            rw [if_neg h3] at sg
            exact Or.inr ⟨_, rfl, by show (i : Int) + 1 = ((i + 1 : Nat) : Int); omega, sg⟩
        · rintro x ⟨hx, h2⟩
          subst hx
          refine ⟨.inr (), ?_, Or.inr ⟨rfl, h2⟩⟩
          show fX10_kindBetween_b52 M s (gen b s) 42 ((42 : Nat) : Int) = _
          unfold fX10_kindBetween_b52
          rw [if_neg (by omega)]
      obtain ⟨r, er, q⟩ := key
      rw [er]
      rcases q with ⟨i, rfl, q⟩ | ⟨rfl, q⟩
      · rw [q]; rfl
      · rw [q]; rfl
  · rw [if_neg h0, if_pos (by omega)]
theorem C_number (A : gTA M b T) {s e : Int} (s0 : 0 ≤ s) (se : s ≤ e) (e1 : e - s ≤ 6) (e2 : e ≤ 3000) (hd : ∀ i : Int, s ≤ i → i < e → gdg (b i) = true) : fX10_numberBetween M s e = some (gnm b s (e - s).toNat) := by
  obtain ⟨hT, hl, hb⟩ := A
  have key : ∃ r, lp (fun q => fX10_numberBetween_b5 M e q.1 q.2) lpN (0, s) = some r ∧ r = gnm b s (e - s).toNat := by
    refine lpn (e - s).toNat (by omega) (fun i q => q.2 = s + (i : Int) ∧ q.1 = gnm b s i) _ _ ⟨by show s = s + ((0 : Nat) : Int); omega, rfl⟩ ?_ ?_
    · rintro i ⟨x, y⟩ hi ⟨hx, hy⟩
      right
      have hx : y = s + (i : Int) := hx
      subst hx
      have hy : x = gnm b s i := hy
      have gb := gnm_b6 (b := b) (s := s) (k := i) (by omega) (fun k hk => hd _ (by omega) (by omega))
      have dd := hd (s + (i : Int)) (by omega) (by omega)
      have dd : 48 ≤ b (s + (i : Int)) ∧ b (s + (i : Int)) ≤ 57 := by unfold gdg at dd; exact of_decide_eq_true dd
      refine ⟨(gnm b s (i + 1), s + (i : Int) + 1), ?_, by show s + (i : Int) + 1 = s + ((i + 1 : Nat) : Int); omega, rfl⟩
      show fX10_numberBetween_b5 M e x (s + (i : Int)) = _
      unfold fX10_numberBetween_b5
      rw [if_pos (by omega), hb, hy, wr_eq (x := gnm b s i * 10) (by omega) (by omega), wr_eq (x := b (s + (i : Int)) - 48) (by omega) (by omega), wr_eq (by omega) (by omega)]
      rfl
    · rintro ⟨x, y⟩ ⟨hx, hy⟩
      have hx : y = s + ((e - s).toNat : Int) := hx
      refine ⟨x, ?_, hy⟩
      show fX10_numberBetween_b5 M e x y = _
      unfold fX10_numberBetween_b5
      rw [if_neg (by omega)]
  obtain ⟨r, er, rfl⟩ := key
  unfold fX10_numberBetween
  rw [er]
  rfl
end CTK
