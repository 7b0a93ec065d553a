/-! part C: the model's tokens -/
def gTB (M : ax_M) (b : Int → Int) (T : Int) : Prop := gT0 b T ∧ mI M 203 2 = T ∧ ∀ j : Int, 0 ≤ j → j < T → mI M 204 j.toNat = b j
def gsy (c : Int) : Int := if c = 40 then 49 else if c = 41 then 50 else if c = 42 then 42 else if c = 43 then 40 else if c = 44 then 54 else if c = 45 then 41 else if c = 47 then 43 else if c = 59 then 53 else if c = 60 then 44 else if c = 61 then 46 else if c = 62 then 45 else if c = 91 then 51 else if c = 93 then 52 else 32
/-- the model's kind of the token at s -/
def gkq (b : Int → Int) (s : Int) : Int := if glt (b s) = true then (match gff (gwl b (gen b s - s).toNat s) 23 with | some i => (i : Int) | none => if 10 < gen b s - s then 32 else 30) else if gdg (b s) = true then (if 6 < gen b s - s then 32 else 31) else if b s = 60 ∧ b (s + 1) = 61 then 47 else if b s = 62 ∧ b (s + 1) = 61 then 48 else gsy (b s)
section MTK
variable {M : ax_M} {b : Int → Int} {T : Int}
theorem gen_T (hT : gT0 b T) {s : Int} (s0 : 0 ≤ s) (s1 : s < T) : gen b s ≤ T := by
  unfold gen
  split
  · have := gsc_f hT gld_1 (j := s + 1) (by omega); omega
  · split
    · have := gsc_f hT gdg_1 (j := s + 1) (by omega); omega
    · split
      · rename_i z
        by_cases y : s + 1 < T
        · omega
        · have := hT.2.2 (s + 1) (by omega)
          omega
      · omega
theorem gS0_T (hT : gT0 b T) : ∀ t : Nat, (∀ i : Nat, i < t → gS0 b i < T) → gS0 b t ≤ T
  | 0, _ => by
    have := gsc_f hT gbl_1 (j := 0) (Int.le_refl 0)
    show gsc gbl b 3000 0 ≤ T
    have := hT.1
    omega
  | t + 1, h => by
    have sb := gS0_b hT t (fun i a => h i (by omega))
    have g := gen_T hT sb.1 (h t (by omega))
    have g2 := gen_b hT sb.1 (h t (by omega))
    have := gsc_f hT gbl_1 (j := gen b (gS0 b t)) (by omega)
    show gsc gbl b 3000 (gen b (gS0 b t)) ≤ T
    omega
theorem gff_no {W : List Int} : ∀ n : Nat, (∀ i, i < n → cTb (102 + i) ≠ W) → gff W n = none
  | 0, _ => rfl
  | n + 1, h => by
    show (match gff W n with | some i => some i | none => if cTb (102 + n) = W then some n else none) = none
    rw [gff_no n (fun i a => h i (by omega))]
    show (if cTb (102 + n) = W then some n else none) = none
    rw [if_neg (h n (by omega))]
theorem gff_up {W : List Int} {m : Nat} : ∀ d : Nat, (∀ i, m ≤ i → i < m + d → cTb (102 + i) ≠ W) → gff W (m + d) = gff W m
  | 0, _ => rfl
  | d + 1, h => by
    show (match gff W (m + d) with | some i => some i | none => if cTb (102 + (m + d)) = W then some (m + d) else none) = gff W m
    rw [gff_up d (fun i a c => h i a (by omega)), if_neg (h (m + d) (by omega) (by omega))]
    cases gff W m <;> rfl
theorem gff_1 (c : Int) : (∃ i, gff [c] 42 = some i ∧ gkm (10 + i) = gsy c ∧ gsy c ≠ 32) ∨ (gff [c] 42 = none ∧ gsy c = 32) := by
  by_cases z : c = 40 ∨ c = 41 ∨ c = 42 ∨ c = 43 ∨ c = 44 ∨ c = 45 ∨ c = 47 ∨ c = 59 ∨ c = 60 ∨ c = 61 ∨ c = 62 ∨ c = 91 ∨ c = 93
  · left
    rcases z with rfl | rfl | rfl | rfl | rfl | rfl | rfl | rfl | rfl | rfl | rfl | rfl | rfl
    · exact ⟨23, by decide, by decide, by decide⟩
    · exact ⟨24, by decide, by decide, by decide⟩
    · exact ⟨31, by decide, by decide, by decide⟩
    · exact ⟨29, by decide, by decide, by decide⟩
    · exact ⟨28, by decide, by decide, by decide⟩
    · exact ⟨30, by decide, by decide, by decide⟩
    · exact ⟨32, by decide, by decide, by decide⟩
    · exact ⟨27, by decide, by decide, by decide⟩
    · exact ⟨33, by decide, by decide, by decide⟩
    · exact ⟨35, by decide, by decide, by decide⟩
    · exact ⟨34, by decide, by decide, by decide⟩
    · exact ⟨25, by decide, by decide, by decide⟩
    · exact ⟨26, by decide, by decide, by decide⟩
  · right
    have l : ∀ i : Fin 42, (cTb (102 + (i : Nat))).length = 1 → (cTb (102 + (i : Nat))).getD 0 0 ∈ ([40, 41, 42, 43, 44, 45, 47, 59, 60, 61, 62, 91, 93] : List Int) := by decide
    refine ⟨gff_no 42 (fun i hi e => ?_), ?_⟩
    · have h := l ⟨i, hi⟩ (by show (cTb (102 + i)).length = 1; rw [e]; rfl)
      have h : (cTb (102 + i)).getD 0 0 ∈ ([40, 41, 42, 43, 44, 45, 47, 59, 60, 61, 62, 91, 93] : List Int) := h
      rw [e] at h
      have h : c ∈ ([40, 41, 42, 43, 44, 45, 47, 59, 60, 61, 62, 91, 93] : List Int) := h
      simp only [List.mem_cons, List.not_mem_nil, or_false] at h
      exact z h
    · unfold gsy
      omega
theorem gsy_b (c : Int) : gsy c ≠ 30 ∧ gsy c ≠ 47 ∧ gsy c ≠ 48 := by
  unfold gsy
  omega
/-- the kinds of class and model, alike -/
theorem gk_rel (hT : gT0 b T) {s : Int} (s0 : 0 ≤ s) (s1 : s < T) : (gkc b T s = 50 → gkq b s = 30 ∨ gkq b s = 32) ∧ (gkc b T s ≠ 50 → gkq b s = gkm (gkc b T s) ∧ 10 ≤ gkc b T s ∧ gkc b T s ≤ 48) := by
  have hg := gen_b hT s0 s1
  unfold gkc gkq
  rw [if_neg (show ¬ T ≤ s by omega)]
  by_cases h1 : gdg (b s) = true
  · rw [if_pos h1, gdg_lt h1, if_neg (show ¬ (false = true) by decide), if_pos h1]
    by_cases h2 : gen b s - s ≤ 6
    · rw [if_pos h2, if_neg (by omega)]
      exact ⟨fun z => by omega, fun _ => ⟨rfl, by omega, by omega⟩⟩
    · rw [if_neg h2, if_pos (by omega)]
      exact ⟨fun _ => Or.inr rfl, fun z => absurd rfl z⟩
  · rw [if_neg h1]
    by_cases h2 : glt (b s) = true
    · rw [if_pos h2]
      have lt : 97 ≤ b s ∧ b s ≤ 122 := by unfold glt at h2; exact of_decide_eq_true h2
      have e : gff (gwl b (gen b s - s).toNat s) 42 = gff (gwl b (gen b s - s).toNat s) 23 := by
        refine gff_up (m := 23) 19 (fun i a c z => ?_)
        have l : ∀ i : Fin 42, 23 ≤ (i : Nat) → (cTb (102 + (i : Nat))).getD 0 0 < 97 := by decide
        have h := l ⟨i, by omega⟩ a
        have h : (cTb (102 + i)).getD 0 0 < 97 := h
        rw [z, gwl_get _ s 0 (by omega), show s + ((0 : Nat) : Int) = s by omega] at h
        omega
      rw [e]
      cases hf : gff (gwl b (gen b s - s).toNat s) 23 with
      | some i =>
        have hi := (gff_i 23 i hf).1
        have l : ∀ i : Fin 23, gkm (10 + (i : Nat)) = ((i : Nat) : Int) := by decide
        exact ⟨fun z => by have : 10 + i = 50 := z; omega, fun _ => ⟨(l ⟨i, hi⟩).symm, by show 10 ≤ 10 + i; omega, by show 10 + i ≤ 48; omega⟩⟩
      | none =>
        refine ⟨fun _ => ?_, fun z => absurd rfl z⟩
        show (if 10 < gen b s - s then (32 : Int) else 30) = 30 ∨ (if 10 < gen b s - s then (32 : Int) else 30) = 32
        split
        · exact Or.inr rfl
        · exact Or.inl rfl
    · rw [if_neg h2, if_neg h1]
      have eg : gen b s = if (b s = 60 ∨ b s = 62) ∧ b (s + 1) = 61 then s + 2 else s + 1 := by
        unfold gen
        rw [if_neg h2, if_neg h1]
      by_cases h3 : b s = 60 ∧ b (s + 1) = 61
      · rw [eg, if_pos ⟨Or.inl h3.1, h3.2⟩, show (s + 2 - s).toNat = 2 by omega, if_pos h3]
        have w : gwl b 2 s = [60, 61] := by show [b s, b (s + 1)] = _; rw [h3.1, h3.2]
        rw [w]
        exact ⟨fun z => by revert z; decide, fun _ => by decide⟩
      · rw [if_neg h3]
        by_cases h4 : b s = 62 ∧ b (s + 1) = 61
        · rw [eg, if_pos ⟨Or.inr h4.1, h4.2⟩, show (s + 2 - s).toNat = 2 by omega, if_pos h4]
          have w : gwl b 2 s = [62, 61] := by show [b s, b (s + 1)] = _; rw [h4.1, h4.2]
          rw [w]
          exact ⟨fun z => by revert z; decide, fun _ => by decide⟩
        · rw [if_neg h4, eg, if_neg (fun z => z.1.elim (fun y => h3 ⟨y, z.2⟩) (fun y => h4 ⟨y, z.2⟩)), show (s + 1 - s).toNat = 1 by omega]
          have w : gwl b 1 s = [b s] := rfl
          rw [w]
          rcases gff_1 (b s) with ⟨i, f1, f2, f3⟩ | ⟨f1, f2⟩
          · rw [f1]
            have hi := gff_i 42 i f1
            have l : ∀ i : Fin 42, (cTb (102 + (i : Nat))).length = 1 → 10 ≤ 10 + (i : Nat) ∧ 10 + (i : Nat) ≤ 48 := by decide
            have hb := l ⟨i, hi.1⟩ (by show (cTb (102 + i)).length = 1; rw [hi.2]; rfl)
            exact ⟨fun z => by have : 10 + i = 50 := z; have : 10 + i ≤ 48 := hb.2; omega, fun _ => ⟨f2.symm, hb⟩⟩
          · rw [f1, f2]
            exact ⟨fun _ => Or.inr rfl, fun z => absurd rfl z⟩
theorem gTB.fr {M' : ax_M} {S : Nat → Nat → Prop} (A : gTB M b T) (f : Fr S M M') (hS : ∀ k j, (k = 203 ∧ j = 2) ∨ k = 204 → ¬ S k j) : gTB M' b T :=
  ⟨A.1, by rw [f.2 203 2 (hS _ _ (Or.inl ⟨rfl, rfl⟩))]; exact A.2.1, fun j j0 j1 => by rw [f.2 204 _ (hS _ _ (Or.inr rfl))]; exact A.2.2 j j0 j1⟩
theorem Q_byteAt (A : gTB M b T) {j : Int} (j0 : 0 ≤ j) : fX14_byteAt M j = some (b j) := by
  have hT := A.1.2.1
  unfold fX14_byteAt
  rw [A.2.1]
  by_cases h : j < T
  · rw [if_pos h, if_pos (by omega), A.2.2 j j0 h]
  · rw [if_neg h, A.1.2.2 j (by omega)]
theorem Q_skip (A : gTB M b T) {j : Int} (j0 : 0 ≤ j) (j1 : j ≤ 2500) : fX14_skip M j = some (gsk b j) := by
  have e : lp (fun s => fX14_skip_b2 M s) lpN j = some (gsk b j) := by
    refine scan_lp A.1 gbl_1 j0 (fun s s0 s1 => ?_) j1
    show fX14_skip_b2 M s = _
    unfold fX14_skip_b2
    rw [Q_byteAt A s0, bd1_s, wr_eq (x := s + 1) (by omega) (by omega), bd1_s]
    unfold gbl
    by_cases h1 : b s = 32
    · rw [if_pos h1, if_pos (by simp [h1])]
    · rw [if_neg h1]
      by_cases h2 : b s = 10
      · rw [if_pos h2, if_pos (by simp [h2])]
      · rw [if_neg h2, if_neg (by simp [h1, h2])]
  unfold fX14_skip
  rw [e]
  rfl
theorem Q_isLetter (M : ax_M) (x : Int) : fX14_isLetter M x = if glt x = true then 1 else 0 := by
  unfold fX14_isLetter glt
  rw [Q_in]
  by_cases h : 97 ≤ x ∧ x ≤ 122
  · rw [if_pos h, if_pos (decide_eq_true h)]
  · rw [if_neg h, if_neg (by simp; omega)]
theorem Q_isDigit (M : ax_M) (x : Int) : fX14_isDigit M x = if gdg x = true then 1 else 0 := by
  unfold fX14_isDigit gdg
  rw [Q_in]
  by_cases h : 48 ≤ x ∧ x ≤ 57
  · rw [if_pos h, if_pos (decide_eq_true h)]
  · rw [if_neg h, if_neg (by simp; omega)]
theorem Q_isWord (A : gTB M b T) {s e : Int} (s0 : 0 ≤ s) (se : s < e) (e1 : e ≤ T) {i : Nat} (hi : i < 42) : fX14_isWord M s (e - s) (60 + i) = some (if cTb (102 + i) = gwl b (e - s).toNat s then 1 else 0) := by
  have hT := A.1.2.1
  have hlen := @cTb_len (102 + i)
  have e0 : 60 + i + 42 = 102 + i := by omega
  unfold fX14_isWord
  rw [e0]
  by_cases h1 : ((cTb (102 + i)).length : Int) = e - s
  · rw [if_pos h1]
    have key : ∃ r, lp (fun q => fX14_isWord_b13 M s (e - s) (60 + i) q) lpN 0 = some r ∧ ((r = .inl () ∧ ¬ cTb (102 + i) = gwl b (e - s).toNat s) ∨ (r = .inr () ∧ cTb (102 + i) = gwl b (e - s).toNat s)) := by
      refine lpn (cTb (102 + i)).length (by omega) (fun k q => q = (k : Int) ∧ ∀ m : Nat, m < k → (cTb (102 + i)).getD m 0 = b (s + m)) _ _ ⟨rfl, fun m h => by omega⟩ ?_ ?_
      · rintro k x hk ⟨hx, h2⟩
        subst hx
        show (∃ r, fX14_isWord_b13 M s (e - s) (60 + i) (k : Int) = some (.inr r) ∧ _) ∨ (∃ s', fX14_isWord_b13 M s (e - s) (60 + i) (k : Int) = some (.inl s') ∧ _)
        unfold fX14_isWord_b13
        rw [e0, if_pos (by omega), if_pos (show 0 ≤ (k : Int) ∧ (k : Int) < ((cTb (102 + i)).length : Int) by omega), wr_eq (x := s + (k : Int)) (by omega) (by omega), if_pos (by omega), A.2.2 _ (by omega) (by omega), Int.toNat_natCast]
        by_cases h3 : (cTb (102 + i)).getD k 0 = b (s + (k : Int))
        · rw [if_pos h3]
          refine Or.inr ⟨_, rfl, by show (k : Int) + 1 = ((k + 1 : Nat) : Int); omega, fun m hm => ?_⟩
          by_cases q : m = k
          · rw [q]; exact h3
          · exact h2 m (by omega)
        · rw [if_neg h3]
          refine Or.inl ⟨_, rfl, Or.inl ⟨rfl, fun z => h3 ?_⟩⟩
          exact ((gwl_eq _ _).mp z).2 k (by omega)
      · rintro x ⟨hx, h2⟩
        subst hx
        refine ⟨.inr (), ?_, Or.inr ⟨rfl, (gwl_eq _ _).mpr ⟨by omega, fun k hk => h2 k (by omega)⟩⟩⟩
        show fX14_isWord_b13 M s (e - s) (60 + i) ((cTb (102 + i)).length : Int) = _
        unfold fX14_isWord_b13
        rw [if_neg (by omega)]
    obtain ⟨r, er, q⟩ := key
    rw [er]
    rcases q with ⟨rfl, q⟩ | ⟨rfl, q⟩
    · rw [if_neg q]; rfl
    · rw [if_pos q]; rfl
  · rw [if_neg h1, if_neg (fun z => h1 (by have := ((gwl_eq _ _).mp z).1; omega))]
theorem Q_keyword (A : gTB M b T) {s e : Int} (s0 : 0 ≤ s) (se : s < e) (e1 : e ≤ T) : fX14_keyword M s (e - s) = some (match gff (gwl b (e - s).toNat s) 23 with | some i => (i : Int) | none => if 10 < e - s then 32 else 30) := by
  have key : ∃ r, lp (fun q => fX14_keyword_b2 M s (e - s) q) lpN 0 = some r ∧ ((∃ i : Nat, r = .inl (i : Int) ∧ gff (gwl b (e - s).toNat s) 23 = some i) ∨ (r = .inr () ∧ gff (gwl b (e - s).toNat s) 23 = none)) := by
    have st : ∀ i j : Nat, gff (gwl b (e - s).toNat s) i = some j → ∀ d : Nat, gff (gwl b (e - s).toNat s) (i + d) = some j := by
      intro i j h d
      induction d with
      | zero => exact h
      | succ d ih =>
        show (match gff (gwl b (e - s).toNat s) (i + d) with | some i => some i | none => if cTb (102 + (i + d)) = gwl b (e - s).toNat s then some (i + d) else none) = some j
        rw [ih]
    refine lpn 23 (by omega) (fun i q => q = (i : Int) ∧ gff (gwl b (e - s).toNat s) i = none) _ _ ⟨rfl, rfl⟩ ?_ ?_
    · rintro i x hi ⟨hx, h2⟩
      subst hx
      have sg : gff (gwl b (e - s).toNat s) (i + 1) = if cTb (102 + i) = gwl b (e - s).toNat s then some i else none := by
        show (match gff (gwl b (e - s).toNat s) i with | some i => some i | none => if cTb (102 + i) = gwl b (e - s).toNat s then some i else none) = _
        rw [h2]
      show (∃ r, fX14_keyword_b2 M s (e - s) (i : Int) = some (.inr r) ∧ _) ∨ (∃ s', fX14_keyword_b2 M s (e - s) (i : Int) = some (.inl s') ∧ _)
      unfold fX14_keyword_b2
      rw [if_pos (by omega), if_pos (show 0 ≤ (i : Int) ∧ (i : Int) < 23 by omega), Int.toNat_natCast, Q_isWord A s0 se e1 (by omega), bd1_s]
      by_cases h3 : cTb (102 + i) = gwl b (e - s).toNat s
      · rw [if_pos h3, if_neg (by omega)]
        rw [if_pos h3] at sg
        have := st _ _ sg (23 - (i + 1))
        rw [show i + 1 + (23 - (i + 1)) = 23 by omega] at this
        exact Or.inl ⟨_, rfl, Or.inl ⟨i, rfl, this⟩⟩
      · rw [if_neg h3, if_pos rfl]
        rw [if_neg h3] at sg
        exact Or.inr ⟨_, rfl, by show (i : Int) + 1 = ((i + 1 : Nat) : Int); omega, sg⟩
    · rintro x ⟨hx, h2⟩
      subst hx
      refine ⟨.inr (), ?_, Or.inr ⟨rfl, h2⟩⟩
      show fX14_keyword_b2 M s (e - s) ((23 : Nat) : Int) = _
      unfold fX14_keyword_b2
      rw [if_neg (by omega)]
  obtain ⟨r, er, q⟩ := key
  unfold fX14_keyword
  rw [er]
  rcases q with ⟨i, rfl, q⟩ | ⟨rfl, q⟩
  · rw [q]; rfl
  · rw [q]
    show (if 10 < e - s then some (32 : Int) else some 30) = some (if 10 < e - s then 32 else 30)
    split <;> rfl
def sTB : Nat → Nat → Prop := fun k _ => 205 ≤ k ∧ k ≤ 207
theorem Q_readTok (A : gTB M b T) {s k : Int} (s0 : 0 ≤ s) (s1 : s < T) (k0 : 0 ≤ k) (k1 : k < 402) : ∃ M', fX14_read M s k = some (gen b s, M') ∧ Fr (fun a c => (205 ≤ a ∧ a ≤ 207) ∧ c = k.toNat) M M' ∧ mI M' 205 k.toNat = gkq b s ∧ mI M' 207 k.toNat = s ∧ (gkq b s = 31 → mI M' 206 k.toNat = gnm b s (gen b s - s).toNat) := by
  have hT := A.1
  have hT2 := hT.2.1
  have hgb := gen_b hT s0 s1
  have hgT := gen_T hT s0 s1
  have A1 : gTB (mUI M 207 k.toNat s) b T := A.fr (S := fun a _ => a = 207) ((Fr.refl _ _).up rfl) (fun a c z => by omega)
  have hbs : mI M 204 s.toNat = b s := A.2.2 s s0 s1
  unfold fX14_read
  rw [if_pos (show 0 ≤ s ∧ s < 2000 by omega), if_pos (show 0 ≤ k ∧ k < 402 from ⟨k0, k1⟩), hbs, Q_isLetter, Q_isDigit]
  have F1 : Fr (fun a c => (205 ≤ a ∧ a ≤ 207) ∧ c = k.toNat) M (mUI M 207 k.toNat s) := (Fr.refl _ _).up ⟨⟨by omega, by omega⟩, rfl⟩
  by_cases h1 : glt (b s) = true
  · rw [if_pos h1, if_neg (by decide)]
    have eg : gen b s = gsc gld b 3000 (s + 1) := by unfold gen; rw [if_pos h1]
    have e : lp (fun q => fX14_read_b26 (mUI M 207 k.toNat s) s k q) lpN (s + 1) = some (gen b s) := by
      rw [eg]
      refine scan_lp hT gld_1 (by omega) (fun q q0 q1 => ?_) (by omega)
      show fX14_read_b26 (mUI M 207 k.toNat s) s k q = _
      unfold fX14_read_b26
      rw [Q_byteAt A1 q0, bd1_s, Q_isLetter, bd1_s, Q_isDigit, wr_eq (x := q + 1) (by omega) (by omega)]
      unfold gld
      by_cases h2 : glt (b q) = true
      · rw [if_pos h2, if_neg (by decide), if_pos (by rw [h2]; rfl)]
      · rw [if_neg h2, if_pos rfl]
        by_cases h3 : gdg (b q) = true
        · rw [if_pos h3, if_neg (by decide), if_pos (by rw [h3]; simp)]
        · rw [if_neg h3, if_pos rfl, if_neg (by simp [h2, h3])]
    have kq : gkq b s = (match gff (gwl b (gen b s - s).toNat s) 23 with | some i => (i : Int) | none => if 10 < gen b s - s then 32 else 30) := by unfold gkq; rw [if_pos h1]
    rw [e, bd1_s, wr_eq (x := gen b s - s) (by omega) (by omega), Q_keyword A1 s0 hgb.1 hgT, ← kq, bd1_s]
    refine ⟨_, rfl, F1.up ⟨⟨by omega, by omega⟩, rfl⟩, mI_Us _ _ _ _, ?_, fun z => ?_⟩
    · rw [mI_Un (by omega), mI_Us]
    · exfalso
      rw [kq] at z
      cases hf : gff (gwl b (gen b s - s).toNat s) 23 with
      | some i =>
        rw [hf] at z
        have := (gff_i 23 i hf).1
        have z : (i : Int) = 31 := z
        omega
      | none =>
        rw [hf] at z
        have z : (if 10 < gen b s - s then (32 : Int) else 30) = 31 := z
        omega
  · rw [if_neg h1, if_pos rfl]
    by_cases h2 : gdg (b s) = true
    · rw [if_pos h2, if_neg (by decide)]
      have eg : gen b s = gsc gdg b 3000 (s + 1) := by unfold gen; rw [if_neg h1, if_pos h2]
      have run := gdg_run hT s0 s1 h2 (gdg_lt h2)
      have key : ∃ r, lp (fun q => fX14_read_b87 (mUI M 207 k.toNat s) s k q.1 q.2) lpN (s + 1, wr (b s - 48)) = some r ∧ r.1 = gen b s ∧ (gen b s - s ≤ 6 → r.2 = gnm b s (gen b s - s).toNat) := by
        refine lpm (fun q => s + 1 ≤ q.1 ∧ q.1 ≤ gen b s ∧ (q.1 - s ≤ 6 → q.2 = gnm b s (q.1 - s).toNat)) (fun q => (gen b s - q.1).toNat) _ _ ⟨Int.le_refl _, by show s + 1 ≤ gen b s; omega, fun _ => ?_⟩ (by show (gen b s - (s + 1)).toNat < 1000000; omega) ?_
        · show wr (b s - 48) = gnm b s (s + 1 - s).toNat
          have dd : 48 ≤ b s ∧ b s ≤ 57 := by unfold gdg at h2; exact of_decide_eq_true h2
          rw [wr_eq (by omega) (by omega), show (s + 1 - s).toNat = 1 by omega]
          show b s - 48 = 0 * 10 + (b (s + ((0 : Nat) : Int)) - 48)
          rw [show s + ((0 : Nat) : Int) = s by omega]
          omega
        · rintro ⟨x, y⟩ ⟨x0, x1, hy⟩
          have x0 : s + 1 ≤ x := x0
          have x1 : x ≤ gen b s := x1
          have hy : x - s ≤ 6 → y = gnm b s (x - s).toNat := hy
          show (∃ r, fX14_read_b87 (mUI M 207 k.toNat s) s k x y = some (.inr r) ∧ _) ∨ (∃ s', fX14_read_b87 (mUI M 207 k.toNat s) s k x y = some (.inl s') ∧ _)
          unfold fX14_read_b87
          rw [Q_byteAt A1 (by omega), bd1_s, Q_isDigit, bd1_s, wr_eq (x := x + 1) (by omega) (by omega), wr_eq (x := x - s) (by omega) (by omega)]
          by_cases h3 : x = gen b s
          · left
            have nd : ¬ gdg (b x) = true := by
              rw [h3, eg]
              have := (gsc_f hT gdg_1 (j := s + 1) (by omega)).2.2.2
              rw [this]
              decide
            rw [if_neg nd, if_pos rfl]
            exact ⟨_, rfl, h3, fun z => by rw [hy (by omega), h3]⟩
          · right
            have dx := run x (by omega) (by omega)
            have dd : 48 ≤ b x ∧ b x ≤ 57 := by unfold gdg at dx; exact of_decide_eq_true dx
            rw [if_pos dx, if_neg (by decide)]
            by_cases h4 : x - s < 7
            · rw [if_pos h4]
              refine ⟨_, rfl, ⟨by show s + 1 ≤ x + 1; omega, by show x + 1 ≤ gen b s; omega, fun z => ?_⟩, by show (gen b s - (x + 1)).toNat < (gen b s - x).toNat; omega⟩
              have z : x + 1 - s ≤ 6 := z
              show wr (wr (wr (10 * y) + b x) - 48) = gnm b s (x + 1 - s).toNat
              have hy := hy (by omega)
              have gb := gnm_b6 (b := b) (s := s) (k := (x - s).toNat) (by omega) (fun i hi => run _ (by omega) (by omega))
              rw [hy, wr_eq (x := 10 * gnm b s (x - s).toNat) (by omega) (by omega), wr_eq (x := 10 * gnm b s (x - s).toNat + b x) (by omega) (by omega), wr_eq (by omega) (by omega), show (x + 1 - s).toNat = (x - s).toNat + 1 by omega]
              show 10 * gnm b s (x - s).toNat + b x - 48 = gnm b s (x - s).toNat * 10 + (b (s + ((x - s).toNat : Int)) - 48)
              rw [show s + ((x - s).toNat : Int) = x by omega]
              omega
            · rw [if_neg h4]
              exact ⟨_, rfl, ⟨by show s + 1 ≤ x + 1; omega, by show x + 1 ≤ gen b s; omega, fun z => by have z : x + 1 - s ≤ 6 := z; omega⟩, by show (gen b s - (x + 1)).toNat < (gen b s - x).toNat; omega⟩
      obtain ⟨⟨r1, r2⟩, er, hr1, hr2⟩ := key
      have hr1 : r1 = gen b s := hr1
      have hr2 : gen b s - s ≤ 6 → r2 = gnm b s (gen b s - s).toNat := hr2
      have kq : gkq b s = if 6 < gen b s - s then 32 else 31 := by unfold gkq; rw [if_neg h1, if_pos h2]
      subst hr1
      rw [er, bd1_s]
      show ∃ M', (if 6 < wr (gen b s - s) then some (gen b s, mUI (mUI (mUI M 207 k.toNat s) 206 k.toNat r2) 205 k.toNat 32) else some (gen b s, mUI (mUI (mUI M 207 k.toNat s) 206 k.toNat r2) 205 k.toNat 31)) = some (gen b s, M') ∧ _
      rw [wr_eq (x := gen b s - s) (by omega) (by omega)]
      by_cases h3 : 6 < gen b s - s
      · rw [if_pos h3] at kq ⊢
        refine ⟨_, rfl, (F1.up ⟨⟨by omega, by omega⟩, rfl⟩).up ⟨⟨by omega, by omega⟩, rfl⟩, by rw [mI_Us, kq], ?_, fun z => by omega⟩
        rw [mI_Un (by omega), mI_Un (by omega), mI_Us]
      · rw [if_neg h3] at kq ⊢
        refine ⟨_, rfl, (F1.up ⟨⟨by omega, by omega⟩, rfl⟩).up ⟨⟨by omega, by omega⟩, rfl⟩, by rw [mI_Us, kq], ?_, fun z => ?_⟩
        · rw [mI_Un (by omega), mI_Un (by omega), mI_Us]
        · rw [mI_Un (by omega), mI_Us]
          exact hr2 (by omega)
    · rw [if_neg h2, if_pos rfl]
      have hsy : fX14_symbol (mUI M 207 k.toNat s) (b s) = gsy (b s) := rfl
      have eg : gen b s = if (b s = 60 ∨ b s = 62) ∧ b (s + 1) = 61 then s + 2 else s + 1 := by unfold gen; rw [if_neg h1, if_neg h2]
      have kq : gkq b s = if b s = 60 ∧ b (s + 1) = 61 then 47 else if b s = 62 ∧ b (s + 1) = 61 then 48 else gsy (b s) := by unfold gkq; rw [if_neg h1, if_neg h2]
      have F2 : Fr (fun a c => (205 ≤ a ∧ a ≤ 207) ∧ c = k.toNat) M (mUI (mUI M 207 k.toNat s) 205 k.toNat (gsy (b s))) := F1.up ⟨⟨by omega, by omega⟩, rfl⟩
      have A2 : gTB (mUI (mUI M 207 k.toNat s) 205 k.toNat (gsy (b s))) b T := A1.fr (S := fun a _ => a = 205) ((Fr.refl _ _).up rfl) (fun a c z => by omega)
      have p7 : mI (mUI (mUI M 207 k.toNat s) 205 k.toNat (gsy (b s))) 207 k.toNat = s := by rw [mI_Un (by omega), mI_Us]
      have n31 : gsy (b s) ≠ 31 := by unfold gsy; omega
      have i44 : gsy (b s) = 44 ↔ b s = 60 := by unfold gsy; omega
      have i45 : gsy (b s) = 45 ↔ b s = 62 := by unfold gsy; omega
      rw [hsy, mI_Us, Q_byteAt A2 (by omega), bd1_s, bd1_s]
      have plain : gen b s = s + 1 → gkq b s = gsy (b s) → ∃ M', some (s + 1, mUI (mUI M 207 k.toNat s) 205 k.toNat (gsy (b s))) = some (gen b s, M') ∧ Fr (fun a c => (205 ≤ a ∧ a ≤ 207) ∧ c = k.toNat) M M' ∧ mI M' 205 k.toNat = gkq b s ∧ mI M' 207 k.toNat = s ∧ (gkq b s = 31 → mI M' 206 k.toNat = gnm b s (gen b s - s).toNat) := by
        intro u1 u2
        exact ⟨_, by rw [u1], F2, by rw [mI_Us, u2], p7, fun z => absurd (u2.symm.trans z) n31⟩
      by_cases h3 : b s = 60
      · rw [if_pos (i44.mpr h3)]
        by_cases h4 : b (s + 1) = 61
        · rw [if_pos h4]
          clear plain
          have u1 : gen b s = s + 1 + 1 := by rw [eg, if_pos ⟨Or.inl h3, h4⟩]; omega
          have u2 : gkq b s = 47 := by rw [kq, if_pos ⟨h3, h4⟩]
          refine ⟨_, by rw [u1], F2.up ⟨⟨by omega, by omega⟩, rfl⟩, by rw [mI_Us, u2], by rw [mI_Un (by omega)]; exact p7, fun z => by omega⟩
        · rw [if_neg h4]
          exact plain (by rw [eg, if_neg (fun z => h4 z.2)]) (by rw [kq, if_neg (fun z => h4 z.2), if_neg (fun z => h4 z.2)])
      · rw [if_neg (fun z => h3 (i44.mp z))]
        by_cases h5 : b s = 62
        · rw [if_pos (i45.mpr h5)]
          by_cases h4 : b (s + 1) = 61
          · rw [if_pos h4]
            clear plain
            have u1 : gen b s = s + 1 + 1 := by rw [eg, if_pos ⟨Or.inr h5, h4⟩]; omega
            have u2 : gkq b s = 48 := by rw [kq, if_neg (fun z => h3 z.1), if_pos ⟨h5, h4⟩]
            refine ⟨_, by rw [u1], F2.up ⟨⟨by omega, by omega⟩, rfl⟩, by rw [mI_Us, u2], by rw [mI_Un (by omega)]; exact p7, fun z => by omega⟩
          · rw [if_neg h4]
            exact plain (by rw [eg, if_neg (fun z => h4 z.2)]) (by rw [kq, if_neg (fun z => h4 z.2), if_neg (fun z => h4 z.2)])
        · rw [if_neg (fun z => h5 (i45.mp z))]
          exact plain (by rw [eg, if_neg (fun z => z.1.elim h3 h5)]) (by rw [kq, if_neg (fun z => h3 z.1), if_neg (fun z => h5 z.1)])
end MTK
