/-! part C: the grammar, class and model in step: what both are made of -/
theorem lp_sim {σ1 ρ1 σ2 ρ2 : Type} {b1 : σ1 → Option (σ1 ⊕ ρ1)} {b2 : σ2 → Option (σ2 ⊕ ρ2)} (R : σ1 → σ2 → Prop) (Q : ρ1 → ρ2 → Prop) (μ : σ1 → Nat) (hb : ∀ s t, R s t → (∃ r q, b1 s = some (.inr r) ∧ b2 t = some (.inr q) ∧ Q r q) ∨ (∃ s' t', b1 s = some (.inl s') ∧ b2 t = some (.inl t') ∧ R s' t' ∧ μ s' < μ s)) : ∀ (n : Nat) (s : σ1) (t : σ2), R s t → μ s < n → ∃ r q, lp b1 n s = some r ∧ lp b2 n t = some q ∧ Q r q
  | 0, _, _, _, h => absurd h (Nat.not_lt_zero _)
  | n + 1, s, t, hR, hm => by
    rcases hb s t hR with ⟨r, q, e1, e2, h⟩ | ⟨s', t', e1, e2, hR', hm'⟩
    · exact ⟨r, q, lp_r e1, lp_r e2, h⟩
    · rw [lp_s e1, lp_s e2]
      exact lp_sim R Q μ hb n s' t' hR' (by omega)
/-- the tokens: kinds, values, how many -/
def gSt (kd : Int → Nat) (vl : Int → Int) (n : Int) : Prop := 1 ≤ n ∧ n ≤ 401 ∧ (∀ t : Int, 0 ≤ t → t < n - 1 → 10 ≤ kd t ∧ kd t ≤ 48) ∧ (kd (n - 1) = 49 ∨ kd (n - 1) = 50) ∧ (∀ t : Int, kd t = 48 → 0 ≤ vl t ∧ vl t ≤ 999999)
def gXA (q : Nat) (kd : Int → Nat) (vl : Int → Int) (A : ax_M) : Prop := (∀ t, fX10_kindOf A t = kd t) ∧ (∀ t, fX10_valueOf A t = vl t) ∧ mR A 166 1 = some q
def gMB (kd : Int → Nat) (vl : Int → Int) (n : Int) (B : ax_M) : Prop := (∀ t : Int, 0 ≤ t → t < n - 1 → mI B 205 t.toNat = gkm (kd t)) ∧ ((kd (n - 1) = 49 ∧ mI B 205 (n - 1).toNat = 33) ∨ (kd (n - 1) = 50 ∧ (mI B 205 (n - 1).toNat = 30 ∨ mI B 205 (n - 1).toNat = 32))) ∧ (∀ t : Int, 0 ≤ t → t < n → kd t = 48 → mI B 206 t.toNat = vl t)
def sGA (q : Nat) : Nat → Nat → Prop := fun k j => (k = 166 ∧ (j = 2 ∨ j = 3)) ∨ (k = q ∧ j = 2) ∨ k = q + 1 ∨ k = q + 2
def sGB : Nat → Nat → Prop := fun k j => (k = 203 ∧ 7 ≤ j ∧ j ≤ 11) ∨ (k = 220 ∧ j = 11) ∨ (229 ≤ k ∧ k ≤ 231)
/-- both go on: t tokens are behind, c places written -/
def gLv (q : Nat) (n : Int) (A B : ax_M) (t c d : Int) : Prop := (mI A 166 3 = 0 ∧ mI A 166 2 = t ∧ mI A q 2 = c) ∧ (mI B 203 8 = 0 ∧ mI B 203 7 = t ∧ mI B 220 11 = c ∧ mI B 203 11 = d) ∧ 0 ≤ t ∧ t < n ∧ 0 ≤ c ∧ c ≤ t ∧ 0 ≤ d ∧ d ≤ 8
/-- both have found token x wrong -/
def gDe (q : Nat) (n : Int) (A B : ax_M) (x : Int) : Prop := (mI A 166 3 = 1 ∧ mI A 166 2 = x ∧ 0 ≤ mI A q 2 ∧ mI A q 2 ≤ 400) ∧ (mI B 203 8 = 1 ∧ mI B 203 9 = 1 ∧ mI B 203 10 = x ∧ mI B 203 7 = x ∧ 0 ≤ mI B 220 11) ∧ 0 ≤ x ∧ x < n
abbrev gop (q : Nat) (A : ax_M) : Int → Nat := fun j => (mR A (q + 1) j.toNat).getD 50
abbrev god (q : Nat) (A : ax_M) : Int → Int := fun j => mI A (q + 2) j.toNat
abbrev gnS (B : ax_M) : Int → Int := fun j => mI B 229 j.toNat
abbrev gnL (B : ax_M) : Int → Int := fun j => mI B 230 j.toNat
abbrev gnR (B : ax_M) : Int → Int := fun j => mI B 231 j.toNat
def gXp (q : Nat) (A B : ax_M) (lo a b : Int) : Prop := (∃ f, gEx (gop q A) (god q A) (gnS B) (gnL B) (gnR B) lo f a b (b - 1)) ∧ ∀ m, a ≤ m → m < b → gNd (gnS B) (gnL B) (gnR B) lo m
/-- what stood ahead of place c stands -/
def gPre (q : Nat) (A A' B B' : ax_M) (c : Int) : Prop := (∀ j : Int, 0 ≤ j → j < c → gop q A' j = gop q A j ∧ god q A' j = god q A j) ∧ (∀ j : Int, 0 ≤ j → j < c → gnS B' j = gnS B j ∧ gnL B' j = gnL B j ∧ gnR B' j = gnR B j) ∧ mI B' 203 9 = mI B 203 9 ∧ mI B' 203 10 = mI B 203 10
def gCl (kd : Int → Nat) (t t' : Int) : Prop := ∀ j, t ≤ j → j < t' → kd j ≠ 10 ∧ kd j ≠ 11 ∧ kd j ≠ 12 ∧ kd j ≠ 13
abbrev aT (A : ax_M) (t : Int) : ax_M := mUI A 166 2 t
abbrev aF (A : ax_M) : ax_M := mUI A 166 3 1
abbrev bT (B : ax_M) (t : Int) : ax_M := mUI B 203 7 t
abbrev bW (B : ax_M) (x : Int) : ax_M := mUI (mUI (mUI B 203 8 1) 203 9 1) 203 10 x
theorem gkm_inj : ∀ a b : Nat, 10 ≤ a → a ≤ 48 → 10 ≤ b → b ≤ 48 → gkm a = gkm b → a = b := by
  have l : ∀ a b : Fin 39, gkm (10 + (a : Nat)) = gkm (10 + (b : Nat)) → a = b := by decide +kernel
  intro a b a0 a1 b0 b1 h
  have := l ⟨a - 10, by omega⟩ ⟨b - 10, by omega⟩ (by show gkm (10 + (a - 10)) = gkm (10 + (b - 10)); rw [show 10 + (a - 10) = a by omega, show 10 + (b - 10) = b by omega]; exact h)
  have : a - 10 = b - 10 := congrArg Fin.val this
  omega
theorem gkm_no : ∀ a : Nat, 10 ≤ a → a ≤ 48 → gkm a ≠ 30 ∧ gkm a ≠ 32 ∧ gkm a ≠ 33 := by
  have l : ∀ a : Fin 39, gkm (10 + (a : Nat)) ≠ 30 ∧ gkm (10 + (a : Nat)) ≠ 32 ∧ gkm (10 + (a : Nat)) ≠ 33 := by decide
  intro a a0 a1
  have := l ⟨a - 10, by omega⟩
  have : gkm (10 + (a - 10)) ≠ 30 ∧ gkm (10 + (a - 10)) ≠ 32 ∧ gkm (10 + (a - 10)) ≠ 33 := this
  rw [show 10 + (a - 10) = a by omega] at this
  exact this
section STP
variable {q : Nat} {kd : Int → Nat} {vl : Int → Int} {n : Int} {A B : ax_M} {t c d x : Int}
theorem gMB_iff (S : gSt kd vl n) (H : gMB kd vl n B) (t0 : 0 ≤ t) (t1 : t < n) {K : Nat} (k0 : 10 ≤ K) (k1 : K ≤ 48) : (mI B 205 t.toNat = gkm K ↔ kd t = K) ∧ (kd t = K → t + 1 < n) := by
  obtain ⟨s1, s2, s3, s4, s5⟩ := S
  obtain ⟨h1, h2, h3⟩ := H
  have nn := gkm_no K k0 k1
  by_cases e : t = n - 1
  · rw [e]
    refine ⟨⟨fun z => ?_, fun z => ?_⟩, fun z => ?_⟩
    · rcases h2 with ⟨y1, y2⟩ | ⟨y1, y2 | y2⟩
      · rw [y2] at z; exact absurd z.symm nn.2.2
      · rw [y2] at z; exact absurd z.symm nn.1
      · rw [y2] at z; exact absurd z.symm nn.2.1
    · omega
    · omega
  · obtain ⟨a, b⟩ := s3 t t0 (by omega)
    rw [h1 t t0 (by omega)]
    exact ⟨⟨fun z => gkm_inj _ _ a b k0 k1 z, fun z => by rw [z]⟩, fun _ => by omega⟩
theorem gMB_end (S : gSt kd vl n) (H : gMB kd vl n B) (t0 : 0 ≤ t) (t1 : t < n) : mI B 205 t.toNat = 33 ↔ kd t = 49 := by
  obtain ⟨s1, s2, s3, s4, s5⟩ := S
  obtain ⟨h1, h2, h3⟩ := H
  by_cases e : t = n - 1
  · rw [e]
    rcases h2 with ⟨y1, y2⟩ | ⟨y1, y2 | y2⟩
    · exact ⟨fun _ => y1, fun _ => y2⟩
    · exact ⟨fun z => by omega, fun z => by omega⟩
    · exact ⟨fun z => by omega, fun z => by omega⟩
  · obtain ⟨a, b⟩ := s3 t t0 (by omega)
    rw [h1 t t0 (by omega)]
    exact ⟨fun z => absurd z (gkm_no _ a b).2.2, fun z => by omega⟩
theorem gXA.fr {A' : ax_M} {S : Nat → Nat → Prop} (H : gXA q kd vl A) (f : Fr2 S A A') (hS : ∀ k j, (153 ≤ k ∧ k ≤ 156) ∨ (k = 166 ∧ j = 1) → ¬ S k j) : gXA q kd vl A' := by
  obtain ⟨h1, h2, h3⟩ := H
  have e3 : mI A' 153 3 = mI A 153 3 := (f.1 _ _ (hS _ _ (by omega))).1
  have e4 : mR A' 154 = mR A 154 := funext (fun j => (f.1 _ j (hS _ _ (by omega))).2)
  have e6 : mI A' 156 = mI A 156 := funext (fun j => (f.1 _ j (hS _ _ (by omega))).1)
  refine ⟨fun t => ?_, fun t => ?_, ?_⟩
  · have := h1 t
    unfold fX10_kindOf at this ⊢
    rw [e3, e4]; exact this
  · have := h2 t
    unfold fX10_valueOf at this ⊢
    rw [e6]; exact this
  · rw [(f.1 _ _ (hS _ _ (by omega))).2]; exact h3
theorem gXA.g {A' : ax_M} (hq : q = 157 ∨ q = 194) (H : gXA q kd vl A) (f : Fr2 (sGA q) A A') : gXA q kd vl A' := H.fr f (fun k j z => by unfold sGA; omega)
theorem gMB.fr {B' : ax_M} {S : Nat → Nat → Prop} (H : gMB kd vl n B) (f : Fr S B B') (hS : ∀ k j, (205 ≤ k ∧ k ≤ 206) → ¬ S k j) : gMB kd vl n B' := by
  obtain ⟨h1, h2, h3⟩ := H
  have e5 : mI B' 205 = mI B 205 := funext (fun j => f.2 _ j (hS _ _ (by omega)))
  have e6 : mI B' 206 = mI B 206 := funext (fun j => f.2 _ j (hS _ _ (by omega)))
  unfold gMB
  rw [e5, e6]
  exact ⟨h1, h2, h3⟩
theorem gMB.g {B' : ax_M} (H : gMB kd vl n B) (f : Fr sGB B B') : gMB kd vl n B' := H.fr f (fun k j z => by unfold sGB; omega)
/-! steps of the class -/
theorem A_take (X : gXA q kd vl A) (h : mI A 166 3 = 0) (ht : mI A 166 2 = t) (t0 : 0 ≤ t) (t1 : t < 401) {K : Nat} (k : kd t = K) : fX3_take A K = some (1, aT A (t + 1)) := by
  unfold fX3_take
  rw [if_pos h, ht, X.1, if_pos k, wr_eq (by omega) (by omega)]
theorem A_takeN (X : gXA q kd vl A) (ht : mI A 166 2 = t) {K : Nat} (k : kd t ≠ K) : fX3_take A K = some (0, A) := by
  unfold fX3_take
  rw [ht, X.1, if_neg k]
  split <;> rfl
theorem A_takeD (h : mI A 166 3 = 1) (K : Nat) : fX3_take A K = some (0, A) := by
  unfold fX3_take
  rw [if_neg (by omega)]
theorem A_need (X : gXA q kd vl A) (h : mI A 166 3 = 0) (ht : mI A 166 2 = t) (t0 : 0 ≤ t) (t1 : t < 401) {K : Nat} (k : kd t = K) : fX3_need A K = some (aT A (t + 1)) := by
  unfold fX3_need
  rw [if_pos h, ht, X.1, if_pos k, wr_eq (by omega) (by omega)]
theorem A_needN (X : gXA q kd vl A) (ht : mI A 166 2 = t) {K : Nat} (k : kd t ≠ K) : fX3_need A K = some (aF A) := by
  unfold fX3_need
  rw [ht, X.1, if_neg k]
  split <;> rfl
theorem A_needD (h : mI A 166 3 = 1) (K : Nat) : fX3_need A K = some (aF A) := by
  unfold fX3_need
  rw [if_neg (by omega)]
theorem A_sees (X : gXA q kd vl A) (h : mI A 166 3 = 0) (ht : mI A 166 2 = t) (K : Nat) : fX3_sees A K = if kd t = K then 1 else 0 := by
  unfold fX3_sees
  rw [if_pos h, ht, X.1]
theorem A_seesD (h : mI A 166 3 = 1) (K : Nat) : fX3_sees A K = 0 := by
  unfold fX3_sees
  rw [if_neg (by omega)]
theorem A_write (hq : q = 157 ∨ q = 194) (K : Nat) (v : Int) (hc : mI A q 2 = c) (c0 : 0 ≤ c) (c1 : c < 400) : fX7_write A q K v = some (mUI (mUI (mUR A (q + 1) c.toNat (some K)) (q + 2) c.toNat v) q 2 (c + 1)) := by
  have e2 : mI (mUI (mUR A (q + 1) c.toNat (some K)) (q + 2) c.toNat v) q 2 = c := by rw [mI_Un (by omega)]; exact hc
  unfold fX7_write
  rw [hc, if_neg (by omega), if_pos c1, if_pos ⟨c0, c1⟩, e2, wr_eq (by omega) (by omega)]
/-- behind a wrong token: what is written is of no use -/
def gDa (q : Nat) (A A' : ax_M) : Prop := Fr2 (sGA q) A A' ∧ mI A' 166 3 = 1 ∧ mI A' 166 2 = mI A 166 2 ∧ 0 ≤ mI A' q 2 ∧ mI A' q 2 ≤ 400
theorem gDa.trans {A' A'' : ax_M} (p : gDa q A A') (r : gDa q A' A'') : gDa q A A'' := ⟨p.1.trans r.1, r.2.1, r.2.2.1.trans p.2.2.1, r.2.2.2⟩
theorem A_writeD (hq : q = 157 ∨ q = 194) (h : gDa q A A) (K : Nat) (v : Int) : ∃ A', fX7_write A q K v = some A' ∧ gDa q A A' := by
  obtain ⟨h0, h1, h2, h3, h4⟩ := h
  by_cases z : mI A q 2 < 400
  · refine ⟨_, A_write hq K v rfl h3 z, ((Fr2.refl _ _).upR (Or.inr (Or.inr (Or.inl rfl)))).up (Or.inr (Or.inr (Or.inr rfl))) |>.up (Or.inr (Or.inl ⟨rfl, rfl⟩)), ?_, ?_, ?_, ?_⟩
    · rw [mI_Un (by omega), mI_Un (by omega)]; exact h1
    · rw [mI_Un (by omega), mI_Un (by omega)]
    · rw [mI_Us]; omega
    · rw [mI_Us]; omega
  · refine ⟨A, ?_, h0, h1, rfl, h3, h4⟩
    unfold fX7_write
    rw [if_neg (by omega), if_neg z]
theorem A_failD (hq : q = 157 ∨ q = 194) (h : gDa q A A) : gDa q A (aF A) := by
  obtain ⟨h0, h1, h2, h3, h4⟩ := h
  exact ⟨(Fr2.refl _ _).up (Or.inl ⟨rfl, Or.inr rfl⟩), mI_Us _ _ _ _, mI_Un (by omega), by rw [mI_Un (by omega)]; exact h3, by rw [mI_Un (by omega)]; exact h4⟩
theorem gDa.self {A' : ax_M} (p : gDa q A A') : gDa q A' A' := ⟨Fr2.refl _ _, p.2.1, rfl, p.2.2.2⟩
/-! steps of the model -/
theorem B_is (S : gSt kd vl n) (H : gMB kd vl n B) (h : mI B 203 8 = 0) (ht : mI B 203 7 = t) (t0 : 0 ≤ t) (t1 : t < n) {K : Nat} {k : Int} (hk : gkm K = k) (k0 : 10 ≤ K) (k1 : K ≤ 48) : fX14_is B k = some (if kd t = K then 1 else 0) := by
  have i := (gMB_iff S H t0 t1 k0 k1).1
  have s2 := S.2.1
  unfold fX14_is
  rw [if_pos h, ht, if_pos (by omega)]
  by_cases z : kd t = K
  · rw [if_pos (by rw [i.mpr z, hk]), if_pos z]
  · rw [if_neg (fun y => z (i.mp (by rw [hk]; exact y))), if_neg z]
theorem B_isD (h : mI B 203 8 = 1) (k : Int) : fX14_is B k = some 0 := by
  unfold fX14_is
  rw [if_neg (by omega)]
theorem B_takes (S : gSt kd vl n) (H : gMB kd vl n B) (h : mI B 203 8 = 0) (ht : mI B 203 7 = t) (t0 : 0 ≤ t) (t1 : t < n) {K : Nat} {k : Int} (hk : gkm K = k) (k0 : 10 ≤ K) (k1 : K ≤ 48) (z : kd t = K) : fX14_takes B k = some (1, bT B (t + 1)) := by
  have s2 := S.2.1
  unfold fX14_takes
  rw [B_is S H h ht t0 t1 hk k0 k1, if_pos z, bd1_s, if_neg (by omega), ht, wr_eq (by omega) (by omega)]
theorem B_takesN (S : gSt kd vl n) (H : gMB kd vl n B) (h : mI B 203 8 = 0) (ht : mI B 203 7 = t) (t0 : 0 ≤ t) (t1 : t < n) {K : Nat} {k : Int} (hk : gkm K = k) (k0 : 10 ≤ K) (k1 : K ≤ 48) (z : kd t ≠ K) : fX14_takes B k = some (0, B) := by
  unfold fX14_takes
  rw [B_is S H h ht t0 t1 hk k0 k1, if_neg z, bd1_s, if_pos rfl]
theorem B_takesD (h : mI B 203 8 = 1) (k : Int) : fX14_takes B k = some (0, B) := by
  unfold fX14_takes
  rw [B_isD h, bd1_s, if_pos rfl]
theorem B_wrong (h : mI B 203 8 = 0) (ht : mI B 203 7 = t) : fX14_wrong B = some (bW B t) := by
  have e : mI (mUI (mUI B 203 8 1) 203 9 1) 203 7 = t := by rw [mI_Un (by omega), mI_Un (by omega)]; exact ht
  unfold fX14_wrong
  rw [if_pos h, e]
theorem B_wrongD (h : mI B 203 8 = 1) : fX14_wrong B = some B := by
  unfold fX14_wrong
  rw [if_neg (by omega)]
theorem B_take (S : gSt kd vl n) (H : gMB kd vl n B) (h : mI B 203 8 = 0) (ht : mI B 203 7 = t) (t0 : 0 ≤ t) (t1 : t < n) {K : Nat} {k : Int} (hk : gkm K = k) (k0 : 10 ≤ K) (k1 : K ≤ 48) : fX14_take B k = some (if kd t = K then bT B (t + 1) else bW B t) := by
  have s2 := S.2.1
  unfold fX14_take
  rw [B_is S H h ht t0 t1 hk k0 k1, bd1_s, B_wrong h ht, bd1_s]
  by_cases z : kd t = K
  · rw [if_pos z, if_pos z, if_neg (by omega), ht, wr_eq (by omega) (by omega)]
  · rw [if_neg z, if_neg z, if_pos rfl]
theorem B_takeD (h : mI B 203 8 = 1) (k : Int) : fX14_take B k = some B := by
  unfold fX14_take
  rw [B_isD h, bd1_s, if_pos rfl, B_wrongD h, bd1_s]
theorem B_node (s l r : Int) (hc : mI B 220 11 = c) (c0 : 0 ≤ c) (c1 : c < 800) : fX14_node B s l r = some (c, mUI (mUI (mUI (mUI B 229 c.toNat s) 230 c.toNat l) 231 c.toNat r) 220 11 (c + 1)) := by
  have e : mI (mUI (mUI (mUI B 229 c.toNat s) 230 c.toNat l) 231 c.toNat r) 220 11 = c := by rw [mI_Un (by omega), mI_Un (by omega), mI_Un (by omega)]; exact hc
  unfold fX14_node
  rw [hc, if_pos ⟨c0, c1⟩, e, wr_eq (by omega) (by omega)]
/-! both -/
theorem L_adv (hq : q = 157 ∨ q = 194) (L : gLv q n A B t c d) (h : t + 1 < n) : gLv q n (aT A (t + 1)) (bT B (t + 1)) (t + 1) c d := by
  obtain ⟨⟨a1, a2, a3⟩, ⟨b1, b2, b3, b4⟩, t0, t1, c0, c1, d0, d1⟩ := L
  exact ⟨⟨by rw [mI_Un (by omega)]; exact a1, mI_Us _ _ _ _, by rw [mI_Un (by omega)]; exact a3⟩, ⟨by rw [mI_Un (by omega)]; exact b1, mI_Us _ _ _ _, by rw [mI_Un (by omega)]; exact b3, by rw [mI_Un (by omega)]; exact b4⟩, by omega, h, c0, by omega, d0, d1⟩
theorem L_die (hq : q = 157 ∨ q = 194) (hn : n ≤ 401) (L : gLv q n A B t c d) : gDe q n (aF A) (bW B t) t ∧ mI (bW B t) 220 11 = c := by
  obtain ⟨⟨a1, a2, a3⟩, ⟨b1, b2, b3, b4⟩, t0, t1, c0, c1, d0, d1⟩ := L
  have e : mI (bW B t) 220 11 = c := by rw [mI_Un (by omega), mI_Un (by omega), mI_Un (by omega)]; exact b3
  refine ⟨⟨⟨mI_Us _ _ _ _, by rw [mI_Un (by omega)]; exact a2, by rw [mI_Un (by omega)]; omega, by rw [mI_Un (by omega)]; omega⟩, ⟨?_, ?_, mI_Us _ _ _ _, ?_, by rw [e]; exact c0⟩, t0, t1⟩, e⟩
  · rw [mI_Un (by omega), mI_Un (by omega), mI_Us]
  · rw [mI_Un (by omega), mI_Us]
  · rw [mI_Un (by omega), mI_Un (by omega), mI_Un (by omega)]; exact b2
theorem aT_fr (A : ax_M) (q : Nat) (v : Int) : Fr2 (sGA q) A (aT A v) := (Fr2.refl _ _).up (Or.inl ⟨rfl, Or.inl rfl⟩)
theorem aF_fr (A : ax_M) (q : Nat) : Fr2 (sGA q) A (aF A) := (Fr2.refl _ _).up (Or.inl ⟨rfl, Or.inr rfl⟩)
theorem bT_fr (B : ax_M) (v : Int) : Fr sGB B (bT B v) := (Fr.refl _ _).up (Or.inl ⟨rfl, by omega, by omega⟩)
theorem bW_fr (B : ax_M) (v : Int) : Fr sGB B (bW B v) := (((Fr.refl _ _).up (Or.inl ⟨rfl, by omega, by omega⟩)).up (Or.inl ⟨rfl, by omega, by omega⟩)).up (Or.inl ⟨rfl, by omega, by omega⟩)
theorem gPre.refl : gPre q A A B B c := ⟨fun _ _ _ => ⟨rfl, rfl⟩, fun _ _ _ => ⟨rfl, rfl, rfl⟩, rfl, rfl⟩
theorem gPre.trans {A1 A2 B1 B2 : ax_M} {c' : Int} (p : gPre q A A1 B B1 c) (r : gPre q A1 A2 B1 B2 c') (h : c ≤ c') : gPre q A A2 B B2 c := by
  obtain ⟨p1, p2, p3, p4⟩ := p
  obtain ⟨r1, r2, r3, r4⟩ := r
  refine ⟨fun j a b => ?_, fun j a b => ?_, r3.trans p3, r4.trans p4⟩
  · obtain ⟨x1, x2⟩ := p1 j a b
    obtain ⟨y1, y2⟩ := r1 j a (by omega)
    exact ⟨y1.trans x1, y2.trans x2⟩
  · obtain ⟨x1, x2, x3⟩ := p2 j a b
    obtain ⟨y1, y2, y3⟩ := r2 j a (by omega)
    exact ⟨y1.trans x1, y2.trans x2, y3.trans x3⟩
theorem gPre.aT (hq : q = 157 ∨ q = 194) (A B : ax_M) (v w c : Int) : gPre q A (aT A v) B (bT B w) c := ⟨fun j _ _ => ⟨rfl, by show mI (mUI A 166 2 v) (q + 2) j.toNat = _; rw [mI_Un (by omega)]⟩, fun j _ _ => ⟨mI_Un (by omega), mI_Un (by omega), mI_Un (by omega)⟩, mI_Un (by omega), mI_Un (by omega)⟩
theorem gEx_c {op op' : Int → Nat} {od od' S S' L L' R R' : Int → Int} {lo : Int} : ∀ (f : Nat) (a b m : Int), (∀ j, a ≤ j → j < b → op' j = op j ∧ od' j = od j) → (∀ j, lo ≤ j → j ≤ m → S' j = S j ∧ L' j = L j ∧ R' j = R j) → gEx op od S L R lo f a b m → gEx op' od' S' L' R' lo f a b m
  | 0, _, _, _, _, _, H => H.elim
  | f + 1, a, b, m, h1, h2, H => by
    have hlt := gEx_lt (f + 1) a b m H
    obtain ⟨n0, a0, H⟩ := H
    obtain ⟨e1, e2, e3⟩ := h2 m n0 (Int.le_refl _)
    refine ⟨n0, a0, ?_⟩
    rcases H with ⟨rfl, p1, p2, p3⟩ | ⟨l, H1, p1, p2, p3, p4⟩ | ⟨k, l, r, H1, H2, p1, p2, p3, p4, p5, p6⟩
    · obtain ⟨u1, u2⟩ := h1 a (Int.le_refl _) (by omega)
      exact Or.inl ⟨rfl, by rw [u1]; exact p1, by rw [e1, u1]; exact p2, by rw [e2, u2]; exact p3⟩
    · have g1 := gEx_lt f _ _ _ H1
      obtain ⟨u1, u2⟩ := h1 (b - 1) (by omega) (by omega)
      exact Or.inr (Or.inl ⟨l, gEx_c f a (b - 1) l (fun j x y => h1 j x (by omega)) (fun j x y => h2 j x (by omega)) H1, p1, by rw [u1]; exact p2, by rw [e1, u1]; exact p3, by rw [e2]; exact p4⟩)
    · have g1 := gEx_lt f _ _ _ H1
      have g2 := gEx_lt f _ _ _ H2
      obtain ⟨u1, u2⟩ := h1 (b - 1) (by omega) (by omega)
      exact Or.inr (Or.inr ⟨k, l, r, gEx_c f a k l (fun j x y => h1 j x (by omega)) (fun j x y => h2 j x (by omega)) H1, gEx_c f k (b - 1) r (fun j x y => h1 j (by omega) (by omega)) (fun j x y => h2 j x (by omega)) H2, p1, p2, by rw [u1]; exact p3, by rw [e1, u1]; exact p4, by rw [e2]; exact p5, by rw [e3]; exact p6⟩)
theorem gEx_up {op : Int → Nat} {od S L R : Int → Int} {lo : Int} : ∀ (f : Nat) (a b m : Int), gEx op od S L R lo f a b m → gEx op od S L R lo (f + 1) a b m
  | 0, _, _, _, H => H.elim
  | f + 1, a, b, m, H => by
    obtain ⟨n0, a0, H⟩ := H
    refine ⟨n0, a0, ?_⟩
    rcases H with z | ⟨l, H1, p⟩ | ⟨k, l, r, H1, H2, p⟩
    · exact Or.inl z
    · exact Or.inr (Or.inl ⟨l, gEx_up f _ _ _ H1, p⟩)
    · exact Or.inr (Or.inr ⟨k, l, r, gEx_up f _ _ _ H1, gEx_up f _ _ _ H2, p⟩)
theorem gEx_le {op : Int → Nat} {od S L R : Int → Int} {lo a b m : Int} {f : Nat} (H : gEx op od S L R lo f a b m) : ∀ e : Nat, gEx op od S L R lo (f + e) a b m
  | 0 => H
  | e + 1 => gEx_up _ _ _ _ (gEx_le H e)
theorem gXp.pre {A' B' : ax_M} {lo a b : Int} (H : gXp q A B lo a b) (p : gPre q A A' B B' c) (a0 : 0 ≤ lo) (a1 : lo ≤ a) (hb : b ≤ c) : gXp q A' B' lo a b := by
  obtain ⟨⟨f, h1⟩, h2⟩ := H
  obtain ⟨p1, p2, _⟩ := p
  refine ⟨⟨f, gEx_c f a b (b - 1) (fun j x y => p1 j (by omega) (by omega)) (fun j x y => p2 j (by omega) (by omega)) h1⟩, fun m m0 m1 => ?_⟩
  obtain ⟨e1, e2, e3⟩ := p2 m (by omega) (by omega)
  have := h2 m m0 m1
  unfold gNd at this ⊢
  rw [e1, e2, e3]
  exact this
/-- a place is written, and a node is made -/
abbrev aW (q : Nat) (A : ax_M) (K : Nat) (v c : Int) : ax_M := mUI (mUI (mUR A (q + 1) c.toNat (some K)) (q + 2) c.toNat v) q 2 (c + 1)
abbrev bN (B : ax_M) (s l r c : Int) : ax_M := mUI (mUI (mUI (mUI B 229 c.toNat s) 230 c.toNat l) 231 c.toNat r) 220 11 (c + 1)
theorem aW_fr (q : Nat) (A : ax_M) (K : Nat) (v c : Int) : Fr2 (sGA q) A (aW q A K v c) := ((Fr2.refl _ _).upR (Or.inr (Or.inr (Or.inl rfl)))).up (Or.inr (Or.inr (Or.inr rfl))) |>.up (Or.inr (Or.inl ⟨rfl, rfl⟩))
theorem bN_fr (B : ax_M) (s l r c : Int) : Fr sGB B (bN B s l r c) := ((((Fr.refl _ _).up (Or.inr (Or.inr ⟨by omega, by omega⟩))).up (Or.inr (Or.inr ⟨by omega, by omega⟩))).up (Or.inr (Or.inr ⟨by omega, by omega⟩))).up (Or.inr (Or.inl ⟨rfl, rfl⟩))
theorem aW_get (hq : q = 157 ∨ q = 194) (A : ax_M) (K : Nat) (v : Int) (c0 : 0 ≤ c) {j : Int} (j0 : 0 ≤ j) : gop q (aW q A K v c) j = (if j = c then K else gop q A j) ∧ god q (aW q A K v c) j = (if j = c then v else god q A j) := by
  constructor
  · show (mR (mUR A (q + 1) c.toNat (some K)) (q + 1) j.toNat).getD 50 = _
    by_cases e : j = c
    · rw [if_pos e, e, mR_Us]; rfl
    · rw [if_neg e, mR_Un (by omega)]
  · show mI (mUI (mUI (mUR A (q + 1) c.toNat (some K)) (q + 2) c.toNat v) q 2 (c + 1)) (q + 2) j.toNat = _
    rw [mI_Un (by omega), mI_Z _ _ _ c0 j0]
theorem bN_get (B : ax_M) (s l r : Int) (c0 : 0 ≤ c) {j : Int} (j0 : 0 ≤ j) : gnS (bN B s l r c) j = (if j = c then s else gnS B j) ∧ gnL (bN B s l r c) j = (if j = c then l else gnL B j) ∧ gnR (bN B s l r c) j = (if j = c then r else gnR B j) := by
  refine ⟨?_, ?_, ?_⟩
  · show mI (mUI (mUI (mUI (mUI B 229 c.toNat s) 230 c.toNat l) 231 c.toNat r) 220 11 (c + 1)) 229 j.toNat = _
    rw [mI_Un (by omega), mI_Un (by omega), mI_Un (by omega), mI_Z _ _ _ c0 j0]
  · show mI (mUI (mUI (mUI (mUI B 229 c.toNat s) 230 c.toNat l) 231 c.toNat r) 220 11 (c + 1)) 230 j.toNat = _
    rw [mI_Un (by omega), mI_Un (by omega), mI_Z _ _ _ c0 j0, mI_Un (by omega)]
  · show mI (mUI (mUI (mUI (mUI B 229 c.toNat s) 230 c.toNat l) 231 c.toNat r) 220 11 (c + 1)) 231 j.toNat = _
    rw [mI_Un (by omega), mI_Z _ _ _ c0 j0, mI_Un (by omega), mI_Un (by omega)]
theorem gPre_W (hq : q = 157 ∨ q = 194) (A B : ax_M) (K : Nat) (v s l r : Int) (c0 : 0 ≤ c) : gPre q A (aW q A K v c) B (bN B s l r c) c := by
  refine ⟨fun j a b => ?_, fun j a b => ?_, ?_, ?_⟩
  · obtain ⟨x, y⟩ := aW_get hq A K v c0 a
    rw [x, y, if_neg (by omega), if_neg (by omega)]
    exact ⟨rfl, rfl⟩
  · obtain ⟨x, y, z⟩ := bN_get B s l r c0 a
    rw [x, y, z, if_neg (by omega), if_neg (by omega), if_neg (by omega)]
    exact ⟨rfl, rfl, rfl⟩
  · rw [mI_Un (by omega), mI_Un (by omega), mI_Un (by omega), mI_Un (by omega)]
  · rw [mI_Un (by omega), mI_Un (by omega), mI_Un (by omega), mI_Un (by omega)]
theorem L_W (hq : q = 157 ∨ q = 194) (L : gLv q n A B t c d) (h : c + 1 ≤ t) (K : Nat) (v s l r : Int) : gLv q n (aW q A K v c) (bN B s l r c) t (c + 1) d := by
  obtain ⟨⟨a1, a2, a3⟩, ⟨b1, b2, b3, b4⟩, t0, t1, c0, c1, d0, d1⟩ := L
  refine ⟨⟨?_, ?_, mI_Us _ _ _ _⟩, ⟨?_, ?_, mI_Us _ _ _ _, ?_⟩, t0, t1, by omega, h, d0, d1⟩
  · rw [mI_Un (by omega), mI_Un (by omega)]; exact a1
  · rw [mI_Un (by omega), mI_Un (by omega)]; exact a2
  · rw [mI_Un (by omega), mI_Un (by omega), mI_Un (by omega), mI_Un (by omega)]; exact b1
  · rw [mI_Un (by omega), mI_Un (by omega), mI_Un (by omega), mI_Un (by omega)]; exact b2
  · rw [mI_Un (by omega), mI_Un (by omega), mI_Un (by omega), mI_Un (by omega)]; exact b4
/-- a leaf -/
theorem gXp_0 (hq : q = 157 ∨ q = 194) {lo : Int} (l0 : 0 ≤ lo) (l1 : lo ≤ c) {K : Nat} {v r : Int} (hK : K = 48 ∨ K = 22 ∨ K = 25 ∨ K = 23 ∨ K = 24 ∨ K = 26 ∨ K = 27) (hv : K = 48 → 0 ≤ v ∧ v ≤ 999999) (hp : K = 23 ∨ K = 24 ∨ K = 26 ∨ K = 27 → v = 0 ∨ v = 1) : gXp q (aW q A K v c) (bN B (gkm K) v r c) lo c (c + 1) := by
  obtain ⟨x1, x2⟩ := aW_get hq A K v (c := c) (by omega) (j := c) (by omega)
  obtain ⟨y1, y2, y3⟩ := bN_get B (gkm K) v r (c := c) (by omega) (j := c) (by omega)
  rw [if_pos rfl] at x1 x2 y1 y2 y3
  refine ⟨⟨1, by omega, by omega, Or.inl ⟨rfl, ?_, ?_, ?_⟩⟩, fun m m0 m1 => ?_⟩
  · rw [x1]; exact hK
  · rw [show c + 1 - 1 = c by omega, y1, x1]
  · rw [show c + 1 - 1 = c by omega, y2, x2]
  · obtain rfl : m = c := by omega
    unfold gNd
    rw [y1, y2]
    rcases hK with rfl | rfl | rfl | rfl | rfl | rfl | rfl
    · exact Or.inl ⟨rfl, hv rfl⟩
    · exact Or.inr (Or.inl rfl)
    · exact Or.inr (Or.inr (Or.inl rfl))
    · exact Or.inr (Or.inr (Or.inr (Or.inl ⟨Or.inl rfl, hp (by omega)⟩)))
    · exact Or.inr (Or.inr (Or.inr (Or.inl ⟨Or.inr (Or.inl rfl), hp (by omega)⟩)))
    · exact Or.inr (Or.inr (Or.inr (Or.inl ⟨Or.inr (Or.inr (Or.inl rfl)), hp (by omega)⟩)))
    · exact Or.inr (Or.inr (Or.inr (Or.inl ⟨Or.inr (Or.inr (Or.inr rfl)), hp (by omega)⟩)))
/-- what turns one value -/
theorem gXp_1 (hq : q = 157 ∨ q = 194) {lo a : Int} (l0 : 0 ≤ lo) (l1 : lo ≤ a) (H : gXp q A B lo a c) {K : Nat} {v r : Int} (hK : K = 51 ∨ K = 28) : gXp q (aW q A K v c) (bN B (gkm K) (c - 1) r c) lo a (c + 1) := by
  obtain ⟨f0, hf0⟩ := H.1
  have hlt := gEx_lt f0 _ _ _ hf0
  have H2 := H.pre (gPre_W hq A B K v (gkm K) (c - 1) r (c := c) (by omega)) l0 l1 (Int.le_refl _)
  obtain ⟨⟨f, hf⟩, h2⟩ := H2
  obtain ⟨x1, x2⟩ := aW_get hq A K v (c := c) (by omega) (j := c) (by omega)
  obtain ⟨y1, y2, y3⟩ := bN_get B (gkm K) (c - 1) r (c := c) (by omega) (j := c) (by omega)
  rw [if_pos rfl] at x1 x2 y1 y2 y3
  refine ⟨⟨f + 1, by omega, by omega, Or.inr (Or.inl ⟨c - 1, ?_, by omega, ?_, ?_, ?_⟩)⟩, fun m m0 m1 => ?_⟩
  · rw [show c + 1 - 1 = c by omega]; exact hf
  · rw [show c + 1 - 1 = c by omega, x1]; exact hK
  · rw [show c + 1 - 1 = c by omega, y1, x1]
  · rw [show c + 1 - 1 = c by omega, y2]
  · by_cases e : m = c
    · rw [e]
      unfold gNd
      rw [y1, y2]
      rcases hK with rfl | rfl
      · exact Or.inr (Or.inr (Or.inr (Or.inr (Or.inl ⟨Or.inl rfl, by omega, by omega⟩))))
      · exact Or.inr (Or.inr (Or.inr (Or.inr (Or.inl ⟨Or.inr rfl, by omega, by omega⟩))))
    · exact h2 m m0 (by omega)
/-- what joins two -/
theorem gXp_2 (hq : q = 157 ∨ q = 194) {lo a k : Int} (l0 : 0 ≤ lo) (l1 : lo ≤ a) (H1 : gXp q A B lo a k) (H2 : gXp q A B lo k c) {K : Nat} {v : Int} (hK : (29 ≤ K ∧ K ≤ 32) ∨ (39 ≤ K ∧ K ≤ 47)) : gXp q (aW q A K v c) (bN B (gkm K) (k - 1) (c - 1) c) lo a (c + 1) := by
  obtain ⟨f1, hf1⟩ := H1.1
  obtain ⟨f2, hf2⟩ := H2.1
  have hlt1 := gEx_lt f1 _ _ _ hf1
  have hlt2 := gEx_lt f2 _ _ _ hf2
  have p := gPre_W hq A B K v (gkm K) (k - 1) (c - 1) (c := c) (by omega)
  obtain ⟨⟨g1, hg1⟩, n1⟩ := H1.pre p l0 l1 (by omega)
  obtain ⟨⟨g2, hg2⟩, n2⟩ := H2.pre p l0 (by omega) (Int.le_refl _)
  obtain ⟨x1, x2⟩ := aW_get hq A K v (c := c) (by omega) (j := c) (by omega)
  obtain ⟨y1, y2, y3⟩ := bN_get B (gkm K) (k - 1) (c - 1) (c := c) (by omega) (j := c) (by omega)
  rw [if_pos rfl] at x1 x2 y1 y2 y3
  refine ⟨⟨g1 + g2 + 1, by omega, by omega, Or.inr (Or.inr ⟨k, k - 1, c - 1, gEx_le hg1 g2, ?_, by omega, by omega, ?_, ?_, ?_, ?_⟩)⟩, fun m m0 m1 => ?_⟩
  · rw [show c + 1 - 1 = c by omega, Nat.add_comm g1 g2]; exact gEx_le hg2 g1
  · rw [show c + 1 - 1 = c by omega, x1]; exact hK
  · rw [show c + 1 - 1 = c by omega, y1, x1]
  · rw [show c + 1 - 1 = c by omega, y2]
  · rw [show c + 1 - 1 = c by omega, y3]
  · by_cases e : m = c
    · rw [e]
      unfold gNd
      rw [y1, y2, y3]
      refine Or.inr (Or.inr (Or.inr (Or.inr (Or.inr ⟨?_, by omega, by omega, by omega, by omega⟩))))
      rcases (show K = 29 ∨ K = 30 ∨ K = 31 ∨ K = 32 ∨ K = 39 ∨ K = 40 ∨ K = 41 ∨ K = 42 ∨ K = 43 ∨ K = 44 ∨ K = 45 ∨ K = 46 ∨ K = 47 by omega) with rfl | rfl | rfl | rfl | rfl | rfl | rfl | rfl | rfl | rfl | rfl | rfl | rfl <;> decide
    · by_cases e2 : m < k
      · exact n1 m m0 e2
      · exact n2 m (by omega) (by omega)
end STP
