/-! part C: cells, what lies beside them, ways (nothing of the machine) -/
def gdx (s : Int) : Int := if s = 0 then 1 else if s = 1 then 0 else if s = 2 then -1 else if s = 3 then -1 else if s = 4 then 0 else 1
def gdy (s : Int) : Int := if s = 0 then 0 else if s = 1 then 1 else if s = 2 then 1 else if s = 3 then 0 else if s = 4 then -1 else -1
def gbs (w h c s : Int) : Int := if 0 ≤ c ∧ c < w * h ∧ 0 ≤ s ∧ s < 6 then gCell w h (c % w + gdx s) (c / w + gdy s) else -1
def gOk (w h : Int) : Prop := 3 ≤ w ∧ w ≤ 9 ∧ 3 ≤ h ∧ h ≤ 9
theorem g7 {w : Int} (a : 3 ≤ w) (b : w ≤ 9) : w = 3 ∨ w = 4 ∨ w = 5 ∨ w = 6 ∨ w = 7 ∨ w = 8 ∨ w = 9 := by omega
theorem g6 {s : Int} (a : 0 ≤ s) (b : s < 6) : s = 0 ∨ s = 1 ∨ s = 2 ∨ s = 3 ∨ s = 4 ∨ s = 5 := by omega
theorem gOk_le {w h : Int} (k : gOk w h) : 9 ≤ w * h ∧ w * h ≤ 81 := by
  obtain ⟨a, b, c, d⟩ := k
  rcases g7 a b with rfl | rfl | rfl | rfl | rfl | rfl | rfl <;> omega
theorem gXY {w h c : Int} (k : gOk w h) (c0 : 0 ≤ c) (c1 : c < w * h) : 0 ≤ c % w ∧ c % w < w ∧ 0 ≤ c / w ∧ c / w < h ∧ w * (c / w) + c % w = c := by
  obtain ⟨a, b, d, e⟩ := k
  rcases g7 a b with rfl | rfl | rfl | rfl | rfl | rfl | rfl <;> omega
theorem gC_on {w h a b : Int} (k : gOk w h) (a0 : 0 ≤ a) (a1 : a < w) (b0 : 0 ≤ b) (b1 : b < h) : gCell w h a b = w * b + a ∧ 0 ≤ gCell w h a b ∧ gCell w h a b < w * h ∧ gCell w h a b % w = a ∧ gCell w h a b / w = b := by
  have e : gCell w h a b = w * b + a := if_pos ⟨a0, a1, b0, b1⟩
  rw [e]
  obtain ⟨k1, k2, k3, k4⟩ := k
  rcases g7 k1 k2 with rfl | rfl | rfl | rfl | rfl | rfl | rfl <;> omega
theorem gC_off {w h a b : Int} (k : ¬ (0 ≤ a ∧ a < w ∧ 0 ≤ b ∧ b < h)) : gCell w h a b = -1 := if_neg k
theorem gC_cases {w h : Int} (k : gOk w h) (a b : Int) : (gCell w h a b = -1 ∧ ¬ (0 ≤ a ∧ a < w ∧ 0 ≤ b ∧ b < h)) ∨ ((0 ≤ a ∧ a < w ∧ 0 ≤ b ∧ b < h) ∧ gCell w h a b = w * b + a ∧ 0 ≤ gCell w h a b ∧ gCell w h a b < w * h ∧ gCell w h a b % w = a ∧ gCell w h a b / w = b) := by
  by_cases z : 0 ≤ a ∧ a < w ∧ 0 ≤ b ∧ b < h
  · exact Or.inr ⟨z, gC_on k z.1 z.2.1 z.2.2.1 z.2.2.2⟩
  · exact Or.inl ⟨gC_off z, z⟩
theorem gbs_on {w h c s : Int} (c0 : 0 ≤ c) (c1 : c < w * h) (s0 : 0 ≤ s) (s1 : s < 6) : gbs w h c s = gCell w h (c % w + gdx s) (c / w + gdy s) := if_pos ⟨c0, c1, s0, s1⟩
theorem gbs_range {w h : Int} (k : gOk w h) (c s : Int) : gbs w h c s = -1 ∨ (0 ≤ gbs w h c s ∧ gbs w h c s < w * h) := by
  unfold gbs
  split
  · rcases gC_cases k (c % w + gdx s) (c / w + gdy s) with z | z
    · exact Or.inl z.1
    · exact Or.inr ⟨z.2.2.1, z.2.2.2.1⟩
  · exact Or.inl rfl
theorem gbs_from {w h c s : Int} (z : 0 ≤ gbs w h c s) : 0 ≤ c ∧ c < w * h ∧ 0 ≤ s ∧ s < 6 := by
  unfold gbs at z
  split at z
  · assumption
  · omega
theorem gbs_xy {w h c s : Int} (k : gOk w h) (z : 0 ≤ gbs w h c s) : gbs w h c s < w * h ∧ gbs w h c s % w = c % w + gdx s ∧ gbs w h c s / w = c / w + gdy s := by
  obtain ⟨c0, c1, s0, s1⟩ := gbs_from z
  rw [gbs_on c0 c1 s0 s1] at z ⊢
  rcases gC_cases k (c % w + gdx s) (c / w + gdy s) with y | y
  · omega
  · exact ⟨y.2.2.2.1, y.2.2.2.2.1, y.2.2.2.2.2⟩
theorem gd_neg {s : Int} (s0 : 0 ≤ s) (s1 : s < 6) : gdx ((s + 3) % 6) = - gdx s ∧ gdy ((s + 3) % 6) = - gdy s := by
  rcases g6 s0 s1 with rfl | rfl | rfl | rfl | rfl | rfl <;> decide
theorem gbs_sym {w h c s : Int} (k : gOk w h) (z : 0 ≤ gbs w h c s) : ∃ t, 0 ≤ t ∧ t < 6 ∧ gbs w h (gbs w h c s) t = c := by
  obtain ⟨c0, c1, s0, s1⟩ := gbs_from z
  obtain ⟨d1, dx, dy⟩ := gbs_xy k z
  obtain ⟨x0, x1, y0, y1, e⟩ := gXY k c0 c1
  obtain ⟨n1, n2⟩ := gd_neg s0 s1
  refine ⟨(s + 3) % 6, by omega, by omega, ?_⟩
  rw [gbs_on z d1 (by omega) (by omega), dx, dy, n1, n2, show c % w + gdx s + -gdx s = c % w by omega, show c / w + gdy s + -gdy s = c / w by omega, (gC_on k x0 x1 y0 y1).1]
  exact e
/-! how many -/
noncomputable def gcn (P : Int → Prop) : Nat → Int
  | 0 => 0
  | n + 1 => gcn P n + @ite Int (P (n : Int)) (Classical.propDecidable _) 1 0
theorem gcn_s {P : Int → Prop} {n : Nat} (h : P n) : gcn P (n + 1) = gcn P n + 1 := by
  show gcn P n + @ite Int (P (n : Int)) (Classical.propDecidable _) 1 0 = _
  rw [if_pos h]
theorem gcn_n {P : Int → Prop} {n : Nat} (h : ¬ P n) : gcn P (n + 1) = gcn P n := by
  show gcn P n + @ite Int (P (n : Int)) (Classical.propDecidable _) 1 0 = _
  rw [if_neg h]
  omega
theorem gcn_b (P : Int → Prop) : ∀ n : Nat, 0 ≤ gcn P n ∧ gcn P n ≤ n
  | 0 => ⟨Int.le_refl _, Int.le_refl _⟩
  | n + 1 => by
    have ih := gcn_b P n
    by_cases h : P n
    · rw [gcn_s h]; omega
    · rw [gcn_n h]; omega
theorem gcn_c {P Q : Int → Prop} : ∀ n : Nat, (∀ c : Int, 0 ≤ c → c < n → (P c ↔ Q c)) → gcn P n = gcn Q n
  | 0, _ => rfl
  | n + 1, h => by
    have ih := gcn_c n (fun c a b => h c a (by omega))
    by_cases z : P n
    · rw [gcn_s z, gcn_s ((h n (by omega) (by omega)).mp z), ih]
    · rw [gcn_n z, gcn_n (fun y => z ((h n (by omega) (by omega)).mpr y)), ih]
theorem gcn_add {P Q : Int → Prop} {c0 : Int} : ∀ n : Nat, 0 ≤ c0 → c0 < n → ¬ P c0 → Q c0 → (∀ c : Int, 0 ≤ c → c < n → c ≠ c0 → (Q c ↔ P c)) → gcn Q n = gcn P n + 1
  | 0, a, b, _, _, _ => by omega
  | n + 1, a, b, hp, hq, h => by
    by_cases z : c0 = n
    · subst z
      have e := gcn_c (P := Q) (Q := P) n (fun c a b => h c a (by omega) (by omega))
      rw [gcn_s hq, gcn_n hp, e]
    · have ih := gcn_add (P := P) (Q := Q) n a (by omega) hp hq (fun c a b => h c a (by omega))
      by_cases y : P n
      · rw [gcn_s y, gcn_s ((h n (by omega) (by omega) (by omega)).mpr y), ih]
      · rw [gcn_n y, gcn_n (fun x => y ((h n (by omega) (by omega) (by omega)).mp x)), ih]
theorem gcn_lt {P : Int → Prop} {c0 : Int} (n : Nat) (a : 0 ≤ c0) (b : c0 < n) (h : ¬ P c0) : gcn P n + 1 ≤ n := by
  have e := gcn_add (P := P) (Q := fun c => P c ∨ c = c0) n a b h (Or.inr rfl) (fun c _ _ d => ⟨fun y => y.elim id (fun z => absurd z d), Or.inl⟩)
  have := (gcn_b (fun c => P c ∨ c = c0) n).2
  omega
theorem gcn_0 {P : Int → Prop} : ∀ n : Nat, (∀ c : Int, 0 ≤ c → c < n → ¬ P c) → gcn P n = 0
  | 0, _ => rfl
  | n + 1, h => by rw [gcn_n (h n (by omega) (by omega)), gcn_0 n (fun c a b => h c a (by omega))]
theorem gcn_le {P Q : Int → Prop} : ∀ n : Nat, (∀ c : Int, 0 ≤ c → c < n → P c → Q c) → gcn P n ≤ gcn Q n
  | 0, _ => Int.le_refl _
  | n + 1, h => by
    have ih := gcn_le n (fun c a b => h c a (by omega))
    by_cases z : P n
    · rw [gcn_s z, gcn_s (h n (by omega) (by omega) z)]; omega
    · by_cases y : Q n
      · rw [gcn_n z, gcn_s y]; omega
      · rw [gcn_n z, gcn_n y]; exact ih
/-! what hangs together -/
def gCn (w h : Int) (U : Int → Prop) : Nat → Int → Int → Prop
  | 0, a, b => a = b ∧ U a ∧ 0 ≤ a ∧ a < w * h
  | k + 1, a, b => gCn w h U k a b ∨ ∃ d t, gCn w h U k a d ∧ 0 ≤ t ∧ t < 6 ∧ gbs w h d t = b ∧ 0 ≤ b ∧ U b
def gC (w h : Int) (U : Int → Prop) (a b : Int) : Prop := ∃ k, gCn w h U k a b
theorem gC_refl {w h : Int} {U : Int → Prop} {a : Int} (u : U a) (a0 : 0 ≤ a) (a1 : a < w * h) : gC w h U a a := ⟨0, rfl, u, a0, a1⟩
theorem gC_step {w h : Int} {U : Int → Prop} {a d b t : Int} (p : gC w h U a d) (t0 : 0 ≤ t) (t1 : t < 6) (e : gbs w h d t = b) (b0 : 0 ≤ b) (u : U b) : gC w h U a b := by
  obtain ⟨k, p⟩ := p
  exact ⟨k + 1, Or.inr ⟨d, t, p, t0, t1, e, b0, u⟩⟩
theorem gC_ind {w h : Int} {U : Int → Prop} {a : Int} {Q : Int → Prop} (hb : U a → 0 ≤ a → a < w * h → Q a) (hs : ∀ d t b, gC w h U a d → Q d → 0 ≤ t → t < 6 → gbs w h d t = b → 0 ≤ b → U b → Q b) {b : Int} (H : gC w h U a b) : Q b := by
  obtain ⟨k, H⟩ := H
  induction k generalizing b with
  | zero => obtain ⟨rfl, u, a0, a1⟩ := H; exact hb u a0 a1
  | succ k ih =>
    rcases H with H | ⟨d, t, h1, t0, t1, e, b0, u⟩
    · exact ih H
    · exact hs d t b ⟨k, h1⟩ (ih h1) t0 t1 e b0 u
theorem gC_mem {w h : Int} {U : Int → Prop} {a b : Int} (k : gOk w h) (H : gC w h U a b) : U b ∧ 0 ≤ b ∧ b < w * h := by
  refine gC_ind (Q := fun b => U b ∧ 0 ≤ b ∧ b < w * h) (fun u a0 a1 => ⟨u, a0, a1⟩) (fun d t b _ _ _ _ e b0 u => ⟨u, b0, ?_⟩) H
  subst e
  exact (gbs_xy k b0).1
theorem gC_st {w h : Int} {U : Int → Prop} {a b : Int} (H : gC w h U a b) : U a ∧ 0 ≤ a ∧ a < w * h :=
  gC_ind (Q := fun _ => U a ∧ 0 ≤ a ∧ a < w * h) (fun u a0 a1 => ⟨u, a0, a1⟩) (fun _ _ _ _ q _ _ _ _ _ => q) H
theorem gC_cons {w h : Int} {U : Int → Prop} {a d b t : Int} (u : U a) (a0 : 0 ≤ a) (a1 : a < w * h) (t0 : 0 ≤ t) (t1 : t < 6) (e : gbs w h a t = d) (p : gC w h U d b) : gC w h U a b :=
  gC_ind (Q := fun b => gC w h U a b) (fun ud d0 _ => gC_step (gC_refl u a0 a1) t0 t1 e d0 ud) (fun _ _ _ _ q t0 t1 e b0 u => gC_step q t0 t1 e b0 u) p
theorem gC_sym {w h : Int} {U : Int → Prop} {a b : Int} (k : gOk w h) (p : gC w h U a b) : gC w h U b a := by
  refine gC_ind (Q := fun b => gC w h U b a) (fun u a0 a1 => gC_refl u a0 a1) (fun d t b hd q t0 t1 e b0 u => ?_) p
  subst e
  obtain ⟨t', t0', t1', e'⟩ := gbs_sym k b0
  exact gC_cons u b0 (gbs_xy k b0).1 t0' t1' e' q
theorem gC_trans {w h : Int} {U : Int → Prop} {a b c : Int} (p : gC w h U a b) (q : gC w h U b c) : gC w h U a c :=
  gC_ind (Q := fun c => gC w h U a c) (fun _ _ _ => p) (fun _ _ _ _ q t0 t1 e b0 u => gC_step q t0 t1 e b0 u) q
/-! ways -/
abbrev gsh (w h p s c : Int) : Prop := (if p = 0 then c % w else c / w) = (if s = 0 then 0 else if p = 0 then w - 1 else h - 1)
def gcost (o : Int → Int) (c : Int) : Int := if o c = 0 then 1 else 0
def gal (w h : Int) (o : Int → Int) (p c : Int) : Prop := 0 ≤ c ∧ c < w * h ∧ (o c = 0 ∨ o c = p + 1)
def gWk (w h : Int) (o : Int → Int) (p s : Int) : Nat → Int → Int → Prop
  | 0, c, n => gal w h o p c ∧ gsh w h p s c ∧ n = gcost o c
  | k + 1, c, n => gWk w h o p s k c n ∨ ∃ b m t, gWk w h o p s k b m ∧ 0 ≤ t ∧ t < 6 ∧ gbs w h b t = c ∧ gal w h o p c ∧ n = m + gcost o c
def gW (w h : Int) (o : Int → Int) (p s c n : Int) : Prop := ∃ k, gWk w h o p s k c n
theorem gcost_b (o : Int → Int) (c : Int) : (gcost o c = 1 ∧ o c = 0) ∨ (gcost o c = 0 ∧ o c ≠ 0) := by
  unfold gcost
  by_cases h : o c = 0
  · rw [if_pos h]; exact Or.inl ⟨rfl, h⟩
  · rw [if_neg h]; exact Or.inr ⟨rfl, h⟩
theorem gW_base {w h : Int} {o : Int → Int} {p s c : Int} (a : gal w h o p c) (b : gsh w h p s c) : gW w h o p s c (gcost o c) := ⟨0, a, b, rfl⟩
theorem gW_step {w h : Int} {o : Int → Int} {p s b m t c : Int} (H : gW w h o p s b m) (t0 : 0 ≤ t) (t1 : t < 6) (e : gbs w h b t = c) (a : gal w h o p c) : gW w h o p s c (m + gcost o c) := by
  obtain ⟨k, H⟩ := H
  exact ⟨k + 1, Or.inr ⟨b, m, t, H, t0, t1, e, a, rfl⟩⟩
theorem gW_ind {w h : Int} {o : Int → Int} {p s : Int} {Q : Int → Int → Prop} (hb : ∀ c, gal w h o p c → gsh w h p s c → Q c (gcost o c)) (hs : ∀ b m t c, gW w h o p s b m → Q b m → 0 ≤ t → t < 6 → gbs w h b t = c → gal w h o p c → Q c (m + gcost o c)) {c n : Int} (H : gW w h o p s c n) : Q c n := by
  obtain ⟨k, H⟩ := H
  induction k generalizing c n with
  | zero => obtain ⟨a, b, rfl⟩ := H; exact hb c a b
  | succ k ih =>
    rcases H with H | ⟨b, m, t, h1, t0, t1, e, a, rfl⟩
    · exact ih H
    · exact hs b m t c ⟨k, h1⟩ (ih h1) t0 t1 e a
theorem gW_al {w h : Int} {o : Int → Int} {p s c n : Int} (H : gW w h o p s c n) : gal w h o p c ∧ 0 ≤ n ∧ gcost o c ≤ n := by
  refine gW_ind (Q := fun c n => gal w h o p c ∧ 0 ≤ n ∧ gcost o c ≤ n) (fun c a _ => ⟨a, ?_, Int.le_refl _⟩) (fun b m t c _ q _ _ _ a => ⟨a, ?_, ?_⟩) H
  · rcases gcost_b o c with z | z <;> omega
  · rcases gcost_b o c with z | z <;> omega
  · omega
theorem gW_cases {w h : Int} {o : Int → Int} {p s c n : Int} (H : gW w h o p s c n) : (gal w h o p c ∧ gsh w h p s c ∧ n = gcost o c) ∨ (gal w h o p c ∧ ∃ b m t, gW w h o p s b m ∧ 0 ≤ t ∧ t < 6 ∧ gbs w h b t = c ∧ n = m + gcost o c) :=
  gW_ind (Q := fun c n => (gal w h o p c ∧ gsh w h p s c ∧ n = gcost o c) ∨ (gal w h o p c ∧ ∃ b m t, gW w h o p s b m ∧ 0 ≤ t ∧ t < 6 ∧ gbs w h b t = c ∧ n = m + gcost o c)) (fun c a b => Or.inl ⟨a, b, rfl⟩) (fun b m t c H _ t0 t1 e a => Or.inr ⟨a, b, m, t, H, t0, t1, e, rfl⟩) H
/-- how many stones the best way needs from a shore up to a cell; 1000 if there is none -/
noncomputable def gd (w h : Int) (o : Int → Int) (p s c : Int) : Int := @dite Int (∃ d, gW w h o p s c d ∧ ∀ n, gW w h o p s c n → d ≤ n) (Classical.propDecidable _) (fun H => Classical.choose H) (fun _ => 1000)
theorem gd_is {w h : Int} {o : Int → Int} {p s c d : Int} (a : gW w h o p s c d) (b : ∀ n, gW w h o p s c n → d ≤ n) : gd w h o p s c = d := by
  have H : ∃ d, gW w h o p s c d ∧ ∀ n, gW w h o p s c n → d ≤ n := ⟨d, a, b⟩
  have e : gd w h o p s c = Classical.choose H := by unfold gd; exact dif_pos H
  have z := Classical.choose_spec H
  rw [e]
  have h1 := z.2 _ a
  have h2 := b _ z.1
  omega
theorem gd_no {w h : Int} {o : Int → Int} {p s c : Int} (a : ∀ n, ¬ gW w h o p s c n) : gd w h o p s c = 1000 := by
  unfold gd
  exact dif_neg (fun ⟨d, x, _⟩ => a d x)
