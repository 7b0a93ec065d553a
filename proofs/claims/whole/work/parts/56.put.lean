/-! part C: stones are put, laid, lifted; counts -/
def sP : Nat → Nat → Prop := fun k j => k = 170 ∨ k = 174 ∨ (k = 169 ∧ j = 9)
def sL : Nat → Nat → Prop := fun k j => k = 170 ∨ k = 174 ∨ k = 175 ∨ (k = 169 ∧ (j = 8 ∨ j = 9))
theorem sP_L : ∀ k j, sP k j → sL k j := by
  intro k j h
  unfold sP at h
  unfold sL
  omega
theorem gcn_put (o : Int → Int) {c v t : Int} (n : Nat) (c0 : 0 ≤ c) (c1 : c < n) : gcn (fun x => gput o c v x = t) n = gcn (fun x => o x = t) n - gat (o c = t) + gat (v = t) := by
  by_cases a : o c = t
  · rw [gat_t a]
    by_cases b : v = t
    · rw [gat_t b, gcn_c (Q := fun x => o x = t) n (fun x _ _ => by
        by_cases e : x = c
        · rw [e, gput_s]; exact ⟨fun _ => a, fun _ => b⟩
        · rw [gput_n e])]
      omega
    · rw [gat_f b, gcn_add (P := fun x => gput o c v x = t) (Q := fun x => o x = t) n c0 c1 (by rw [gput_s]; exact b) a (fun x _ _ e => by rw [gput_n e])]
      omega
  · rw [gat_f a]
    by_cases b : v = t
    · rw [gat_t b, gcn_add (P := fun x => o x = t) (Q := fun x => gput o c v x = t) n c0 c1 a (by rw [gput_s]; exact b) (fun x _ _ e => by rw [gput_n e])]
      omega
    · rw [gat_f b, gcn_c (Q := fun x => o x = t) n (fun x _ _ => by
        by_cases e : x = c
        · rw [e, gput_s]; exact ⟨fun z => absurd z b, fun z => absurd z a⟩
        · rw [gput_n e])]
      omega
theorem gcn_N {w h : Int} {o : Int → Int} (k : gOk w h) (g : gOwn w h o) {t : Int} (ht : t ≠ 0) : gcn (fun x => o x = t) 81 = gcn (fun x => o x = t) (w * h).toNat := by
  have hN := gOk_le k
  have : ∀ d : Nat, gcn (fun x => o x = t) ((w * h).toNat + d) = gcn (fun x => o x = t) (w * h).toNat := by
    intro d
    induction d with
    | zero => rfl
    | succ d ih =>
      rw [← Nat.add_assoc, gcn_n (P := fun x => o x = t) (by
        have := g.1 (((w * h).toNat + d : Nat) : Int) (by omega)
        omega), ih]
  have e := this (81 - (w * h).toNat)
  rw [show (w * h).toNat + (81 - (w * h).toNat) = 81 by omega] at e
  exact e
theorem gcn_3 {o : Int → Int} (g : ∀ c, o c = 0 ∨ o c = 1 ∨ o c = 2) : ∀ n : Nat, gcn (fun x => o x = 0) n + gcn (fun x => o x = 1) n + gcn (fun x => o x = 2) n = n
  | 0 => rfl
  | n + 1 => by
    have ih := gcn_3 g n
    rcases g (n : Int) with z | z | z
    · rw [gcn_s (P := fun x => o x = 0) z, gcn_n (P := fun x => o x = 1) (by omega), gcn_n (P := fun x => o x = 2) (by omega)]; omega
    · rw [gcn_n (P := fun x => o x = 0) (by omega), gcn_s (P := fun x => o x = 1) z, gcn_n (P := fun x => o x = 2) (by omega)]; omega
    · rw [gcn_n (P := fun x => o x = 0) (by omega), gcn_n (P := fun x => o x = 1) (by omega), gcn_s (P := fun x => o x = 2) z]; omega
noncomputable def gturn (o : Int → Int) : Int := if gcn (fun c => o c = 2) 81 < gcn (fun c => o c = 1) 81 then 1 else 0
theorem gturn_b (o : Int → Int) : gturn o = 0 ∨ gturn o = 1 := by
  unfold gturn
  split
  · exact Or.inr rfl
  · exact Or.inl rfl
section PUT
variable {M : ax_M} {w h : Int} {o : Int → Int}
theorem C_count {a s : Int} (a0 : 0 ≤ a) (a1 : a ≤ 2) (hs : s = 1 ∨ s = -1) (hb : ∀ p : Int, (p = 0 ∨ p = 1) → -1 ≤ mI M 174 p.toNat ∧ mI M 174 p.toNat ≤ 82) : ∃ M', fX8_countStone M a s = some M' ∧ Fr (fun k _ => k = 174) M M' ∧ ∀ p : Int, (p = 0 ∨ p = 1) → mI M' 174 p.toNat = mI M 174 p.toNat + s * gat (a = p + 1) := by
  unfold fX8_countStone
  rw [wr_eq (x := a - 1) (by omega) (by omega)]
  by_cases z : a = 0
  · rw [if_pos (by omega)]
    refine ⟨M, rfl, Fr.refl _ _, fun p hp => ?_⟩
    rw [gat_f (by omega), Int.mul_zero, Int.add_zero]
  · have b := hb (a - 1) (by omega)
    rw [if_neg (by omega), if_pos (by omega), wr_eq (x := mI M 174 (a - 1).toNat + s) (by omega) (by omega)]
    refine ⟨_, rfl, (Fr.refl _ _).up rfl, fun p hp => ?_⟩
    by_cases e : p = a - 1
    · rw [e, mI_Us, gat_t (by omega), Int.mul_one]
    · rw [mI_Un (by omega), gat_f (by omega), Int.mul_zero, Int.add_zero]
theorem C_put (P : Pd M w h o) {c v : Int} (c0 : 0 ≤ c) (c1 : c < w * h) (hv : v = 0 ∨ v = 1 ∨ v = 2) (hch : 0 ≤ mI M 169 9 ∧ mI M 169 9 < 2000000000) : ∃ M', fX8_put M c v = some M' ∧ Pd M' w h (gput o c v) ∧ Fr sP M M' ∧ mI M' 169 9 = mI M 169 9 + 1 := by
  have hN := P.n
  have ob := P.2.1.2 c
  have hc := P.2.2.1 c c0 (by omega)
  have t0 := P.2.2.2.1
  have t1 := P.2.2.2.2
  have b0 := gcn_b (fun c => o c = 1) 81
  have b1 := gcn_b (fun c => o c = 2) 81
  have tb : ∀ p : Int, (p = 0 ∨ p = 1) → mI M 174 p.toNat = gcn (fun c => o c = p + 1) 81 := by
    rintro p (rfl | rfl)
    · exact t0
    · exact t1
  obtain ⟨M1, e1, f1, g1⟩ := C_count (M := M) (a := o c) (s := -1) (by omega) (by omega) (Or.inr rfl) (by
    intro p hp
    have := gcn_b (fun c => o c = p + 1) 81
    rw [tb p hp]
    omega)
  obtain ⟨M2, e2, f2, g2⟩ := C_count (M := M1) (a := v) (s := 1) (by omega) (by omega) (Or.inl rfl) (by
    intro p hp
    have := gcn_b (fun c => o c = p + 1) 81
    have z := gat_b (o c = p + 1)
    rw [g1 p hp, tb p hp]
    omega)
  have f12 := f1.trans f2
  have n9 : mI (mUI M2 170 c.toNat v) 169 9 = mI M 169 9 := by rw [mI_Un (by omega), f12.2 169 9 (by omega)]
  refine ⟨mUI (mUI M2 170 c.toNat v) 169 9 (mI M 169 9 + 1), ?_, ?_, ?_, mI_Us _ _ _ _⟩
  · unfold fX8_put
    rw [P_has1 P.1 c0 c1, if_neg (by omega), if_pos (show 0 ≤ c ∧ c < 81 by omega), hc, e1, bd1_s, e2, bd1_s, n9, wr_eq (by omega) (by omega)]
  · have F : Fr sP M (mUI (mUI M2 170 c.toNat v) 169 9 (mI M 169 9 + 1)) := ((f12.mono (T := sP) (fun k j z => Or.inr (Or.inl z))).up (Or.inl rfl)).up (Or.inr (Or.inr ⟨rfl, rfl⟩))
    have cnt : ∀ p : Int, (p = 0 ∨ p = 1) → mI (mUI (mUI M2 170 c.toNat v) 169 9 (mI M 169 9 + 1)) 174 p.toNat = gcn (fun x => gput o c v x = p + 1) 81 := by
      intro p hp
      rw [mI_Un (by omega), mI_Un (by omega), g2 p hp, g1 p hp, tb p hp, gcn_put o 81 c0 (by omega)]
      omega
    refine ⟨P.1.fr F (fun k j z => by unfold sP; omega), gput_own P.2.1 c0 c1 hv, fun x x0 x1 => ?_, cnt 0 (Or.inl rfl), cnt 1 (Or.inr rfl)⟩
    rw [mI_Un (by omega), mI_Z _ _ _ c0 x0]
    by_cases e : x = c
    · rw [if_pos e, e, gput_s]
    · rw [if_neg e, gput_n e, f12.2 170 _ (by omega)]
      exact P.2.2.1 x x0 x1
  · exact ((f12.mono (T := sP) (fun k j z => Or.inr (Or.inl z))).up (Or.inl rfl)).up (Or.inr (Or.inr ⟨rfl, rfl⟩))
/-- what is remembered is old behind a change -/
theorem gWays_new {M' : ax_M} {o' : Int → Int} {S : Nat → Nat → Prop} (W : gWays M w h o) (f : Fr S M M') (hS : ∀ k j, k = 189 → ¬ S k j) (h9 : mI M 169 9 < mI M' 169 9) : gWays M' w h o' := by
  intro p s hp hs
  have := (W p s hp hs).1
  rw [f.2 189 _ (hS _ _ rfl)]
  exact ⟨by omega, fun z => by omega⟩
theorem gWays_fr {M' : ax_M} {S : Nat → Nat → Prop} (W : gWays M w h o) (f : Fr S M M') (hS : ∀ k j, (185 ≤ k ∧ k ≤ 190) ∨ (k = 169 ∧ j = 9) → ¬ S k j) : gWays M' w h o := by
  intro p s hp hs
  obtain ⟨a, b⟩ := W p s hp hs
  rw [f.2 189 _ (hS _ _ (by omega)), f.2 169 9 (hS _ _ (by omega))]
  refine ⟨a, fun z => ?_⟩
  obtain ⟨c, d⟩ := b z
  refine ⟨fun x x0 x1 => ?_, fun q => ?_⟩
  · rw [f.2 _ _ (hS _ _ (Or.inl ⟨by show 185 ≤ 185 + (p * 2 + s).toNat; omega, by show 185 + (p * 2 + s).toNat ≤ 190; omega⟩))]; exact c x x0 x1
  · rw [f.2 190 _ (hS _ _ (by omega))]; exact d q
theorem gBr_new {M' : ax_M} {o' : Int → Int} {S : Nat → Nat → Prop} (W : gBr M w h o) (f : Fr S M M') (hS : ∀ k j, k = 179 → ¬ S k j) (h9 : mI M 169 9 < mI M' 169 9) : gBr M' w h o' := by
  have := W.1
  unfold gBr
  rw [f.2 179 _ (hS _ _ rfl)]
  exact ⟨by omega, fun z => by omega⟩
theorem gBI.fr {M' : ax_M} {S : Nat → Nat → Prop} {N : Nat} (W : gBI M w h o N) (f : Fr S M M') (hS : ∀ k j, 180 ≤ k ∧ k ≤ 182 → ¬ S k j) : gBI M' w h o N := by
  intro p hp
  rw [f.2 180 _ (hS _ _ (by omega)), f.2 181 _ (hS _ _ (by omega)), f.2 182 _ (hS _ _ (by omega))]
  exact W p hp
theorem gBr_fr {M' : ax_M} {S : Nat → Nat → Prop} (W : gBr M w h o) (f : Fr S M M') (hS : ∀ k j, (179 ≤ k ∧ k ≤ 182) ∨ (k = 169 ∧ j = 9) → ¬ S k j) : gBr M' w h o := by
  unfold gBr
  rw [f.2 179 _ (hS _ _ (by omega)), f.2 169 9 (hS _ _ (by omega))]
  exact ⟨W.1, fun z => (W.2 z).fr f (fun k j e => hS k j (by omega))⟩
theorem C_lay (P : Pd M w h o) {c p b : Int} (c0 : 0 ≤ c) (c1 : c < w * h) (hp : p = 0 ∨ p = 1) (hch : 0 ≤ mI M 169 9 ∧ mI M 169 9 < 2000000000) (hb : mI M 169 8 = b) (b0 : 0 ≤ b) (b1 : b < 81) : ∃ M', fX8_lay M c p = some M' ∧ Pd M' w h (gput o c (p + 1)) ∧ Fr sL M M' ∧ mI M' 169 9 = mI M 169 9 + 1 ∧ mI M' 169 8 = b + 1 ∧ mI M' 175 b.toNat = c ∧ ∀ j : Int, 0 ≤ j → j ≠ b → mI M' 175 j.toNat = mI M 175 j.toNat := by
  obtain ⟨M1, e1, P1, f1, h9⟩ := C_put P (v := p + 1) c0 c1 (by omega) hch
  have hb1 : mI M1 169 8 = b := by rw [f1.2 169 8 (by unfold sP; omega)]; exact hb
  have hb2 : mI (mUI M1 175 b.toNat c) 169 8 = b := by rw [mI_Un (by omega)]; exact hb1
  refine ⟨mUI (mUI M1 175 b.toNat c) 169 8 (b + 1), ?_, ?_, ?_, ?_, mI_Us _ _ _ _, ?_, fun j j0 j1 => ?_⟩
  · unfold fX8_lay
    rw [P_has1 P.1 c0 c1, if_neg (by omega), hb, if_neg (by omega), if_pos b1, wr_eq (x := p + 1) (by omega) (by omega), e1, bd1_s, hb1, if_pos ⟨b0, b1⟩, hb2, wr_eq (by omega) (by omega)]
  · exact P1.fr (S := fun k j => k = 175 ∨ (k = 169 ∧ j = 8)) (((Fr.refl _ _).up (Or.inl rfl)).up (Or.inr ⟨rfl, rfl⟩)) (fun k j z => by omega)
  · exact ((f1.mono sP_L).up (Or.inr (Or.inr (Or.inl rfl)))).up (Or.inr (Or.inr (Or.inr ⟨rfl, Or.inl rfl⟩)))
  · rw [mI_Un (by omega), mI_Un (by omega)]; exact h9
  · rw [mI_Un (by omega), mI_Us]
  · rw [mI_Un (by omega), mI_Un (by omega), f1.2 175 _ (by unfold sP; omega)]
theorem C_lift (P : Pd M w h o) {b : Int} (hch : 0 ≤ mI M 169 9 ∧ mI M 169 9 < 2000000000) (hb : mI M 169 8 = b + 1) (b0 : 0 ≤ b) (b1 : b < 81) (c0 : 0 ≤ mI M 175 b.toNat) (c1 : mI M 175 b.toNat < w * h) : ∃ M', fX8_liftLatest M = some (mI M 175 b.toNat, M') ∧ Pd M' w h (gput o (mI M 175 b.toNat) 0) ∧ Fr sL M M' ∧ mI M' 169 9 = mI M 169 9 + 1 ∧ mI M' 169 8 = b ∧ ∀ j, mI M' 175 j = mI M 175 j := by
  have F0 : Fr (fun k j => k = 169 ∧ j = 8) M (mUI M 169 8 b) := (Fr.refl _ _).up ⟨rfl, rfl⟩
  have P0 := P.fr F0 (fun k j z => by omega)
  have e9 : mI (mUI M 169 8 b) 169 9 = mI M 169 9 := mI_Un (by omega)
  have e8 : mI (mUI M 169 8 b) 169 8 = b := mI_Us _ _ _ _
  have e175 : ∀ j, mI (mUI M 169 8 b) 175 j = mI M 175 j := fun j => mI_Un (by omega)
  obtain ⟨M1, e1, P1, f1, h9⟩ := C_put P0 (c := mI M 175 b.toNat) (v := 0) c0 c1 (Or.inl rfl) (by rw [e9]; exact hch)
  refine ⟨M1, ?_, P1, ?_, by rw [h9, e9], by rw [f1.2 169 8 (by unfold sP; omega), e8], fun j => by rw [f1.2 175 j (by unfold sP; omega), e175]⟩
  · unfold fX8_liftLatest
    rw [hb, if_pos (by omega), if_neg (by omega), show b + 1 - 1 = b by omega, e8, if_pos ⟨b0, b1⟩, e175, e1, bd1_s]
  · exact (F0.mono (fun k j z => Or.inr (Or.inr (Or.inr ⟨z.1, Or.inl z.2⟩)))).trans (f1.mono sP_L)
theorem C_stonesOf (P : Pd M w h o) {p : Int} (hp : p = 0 ∨ p = 1) : fX8_stonesOf M p = gcn (fun c => o c = p + 1) 81 := by
  unfold fX8_stonesOf
  rw [if_neg (by omega), if_pos (by omega)]
  rcases hp with rfl | rfl
  · exact P.2.2.2.1
  · exact P.2.2.2.2
theorem C_turn (P : Pd M w h o) : fX8_turn M = gturn o := by
  unfold fX8_turn gturn
  rw [C_stonesOf P (Or.inl rfl), C_stonesOf P (Or.inr rfl)]
  rfl
theorem C_stones (P : Pd M w h o) : fX8_stones M = gcn (fun c => o c = 1) 81 + gcn (fun c => o c = 2) 81 := by
  have b0 := gcn_b (fun c => o c = 1) 81
  have b1 := gcn_b (fun c => o c = 2) 81
  unfold fX8_stones
  rw [P.2.2.2.1, P.2.2.2.2, wr_eq (by omega) (by omega)]
theorem C_free (P : Pd M w h o) : fX8_freeCells M = gcn (fun c => o c = 0) (w * h).toNat := by
  have hN := P.n
  have b0 := gcn_b (fun c => o c = 1) 81
  have b1 := gcn_b (fun c => o c = 2) 81
  have t := gcn_3 P.2.1.2 (w * h).toNat
  unfold fX8_freeCells
  rw [P_cells P.1, C_stones P, wr_eq (by omega) (by omega), gcn_N P.k P.2.1 (show (1 : Int) ≠ 0 by omega), gcn_N P.k P.2.1 (show (2 : Int) ≠ 0 by omega)]
  omega
theorem Q_countP (P : Md M w h o) {p : Int} (hp : p = 0 ∨ p = 1) : fX14_count M p = some (gcn (fun c => o c = p + 1) 81) := by
  rw [Q_count P, gcn_N P.1 P.2.1 (show p + 1 ≠ 0 by omega)]
theorem Q_turn (P : Md M w h o) : fX14_inTurn M = some (gturn o) := by
  unfold fX14_inTurn gturn
  rw [Q_countP P (Or.inl rfl), bd1_s, Q_countP P (Or.inr rfl), bd1_s]
  show (if gcn (fun c => o c = 2) 81 < gcn (fun c => o c = 1) 81 then some (1 : Int) else some 0) = _
  by_cases z : gcn (fun c => o c = 2) 81 < gcn (fun c => o c = 1) 81
  · rw [if_pos z, if_pos z]
  · rw [if_neg z, if_neg z]
theorem Q_free (P : Md M w h o) : fX14_count M (-1) = some (gcn (fun c => o c = 0) (w * h).toNat) := Q_count P (-1)
/-- stones beside a cell -/
theorem C_besideN (P : Pd M w h o) {p c : Int} (hp : p = 0 ∨ p = 1) : lp (fun q => fX12_stonesBeside_b18 M p c q.1 q.2) lpN (0, 0) = some (gcn (fun s => o (gbs w h c s) = p + 1) 6) := by
  have key : ∃ r, lp (fun q => fX12_stonesBeside_b18 M p c q.1 q.2) lpN (0, 0) = some r ∧ r = gcn (fun s => o (gbs w h c s) = p + 1) 6 := by
    refine lpn 6 (by omega) (fun i q => q.2 = (i : Int) ∧ q.1 = gcn (fun s => o (gbs w h c s) = p + 1) i) _ _ ⟨rfl, rfl⟩ ?_ ?_
    · rintro i ⟨x, y⟩ hi ⟨hx, hy⟩
      right
      have hx : y = (i : Int) := hx
      subst hx
      have hy : x = gcn (fun s => o (gbs w h c s) = p + 1) i := hy
      have hb := gcn_b (fun s => o (gbs w h c s) = p + 1) i
      show ∃ s', fX12_stonesBeside_b18 M p c x (i : Int) = some (.inl s') ∧ _
      unfold fX12_stonesBeside_b18
      rw [if_pos (by omega), P_bs P.1, P_own P, wr_eq (x := p + 1) (by omega) (by omega)]
      by_cases z : o (gbs w h c (i : Int)) = p + 1
      · rw [if_pos z, wr_eq (by omega) (by omega)]
        exact ⟨(_, _), rfl, rfl, by rw [gcn_s (P := fun s => o (gbs w h c s) = p + 1) z, ← hy]⟩
      · rw [if_neg z]
        exact ⟨(_, _), rfl, rfl, by rw [gcn_n (P := fun s => o (gbs w h c s) = p + 1) z, ← hy]⟩
    · rintro ⟨x, y⟩ ⟨hx, hy⟩
      have hx : y = ((6 : Nat) : Int) := hx
      subst hx
      refine ⟨x, ?_, hy⟩
      show fX12_stonesBeside_b18 M p c x ((6 : Nat) : Int) = _
      unfold fX12_stonesBeside_b18
      rw [if_neg (by omega)]
  obtain ⟨r, e, rfl⟩ := key
  exact e
theorem Q_besideN (P : Md M w h o) {p x y : Int} (hp : p = 0 ∨ p = 1) (z : 0 ≤ x ∧ x < w ∧ 0 ≤ y ∧ y < h) : lp (fun q => fX14_stonesBeside_b33 M p x y q.1 q.2) lpN (0, 0) = some (gcn (fun s => o (gbs w h (gCell w h x y) s) = p + 1) 6) := by
  have hN := gOk_le P.1
  obtain ⟨q1, q2, q3, _⟩ := gC_on P.1 z.1 z.2.1 z.2.2.1 z.2.2.2
  have at' := Q_at P z
  generalize gCell w h x y = c at *
  have key : ∃ r, lp (fun q => fX14_stonesBeside_b33 M p x y q.1 q.2) lpN (0, 0) = some r ∧ r = gcn (fun s => o (gbs w h c s) = p + 1) 6 := by
    refine lpn 6 (by omega) (fun i q => q.2 = (i : Int) ∧ q.1 = gcn (fun s => o (gbs w h c s) = p + 1) i) _ _ ⟨rfl, rfl⟩ ?_ ?_
    · rintro i ⟨x', y'⟩ hi ⟨hx, hy⟩
      right
      have hx : y' = (i : Int) := hx
      subst hx
      have hy : x' = gcn (fun s => o (gbs w h c s) = p + 1) i := hy
      have hb := gcn_b (fun s => o (gbs w h c s) = p + 1) i
      have hr := gbs_range P.1 c (i : Int)
      show ∃ s', fX14_stonesBeside_b33 M p x y x' (i : Int) = some (.inl s') ∧ _
      unfold fX14_stonesBeside_b33
      rw [if_pos (by omega), at', Q_bs P q2 q3 (by omega) (by omega), bd1_s]
      by_cases g : gbs w h c (i : Int) = -1
      · have hn : ¬ o (gbs w h c (i : Int)) = p + 1 := by
          rw [g, P.2.1.1 (-1) (by omega)]; omega
        rw [if_pos g, Int.add_zero, wr_eq (by omega) (by omega)]
        exact ⟨(_, _), rfl, rfl, by rw [gcn_n (P := fun s => o (gbs w h c s) = p + 1) hn, ← hy]⟩
      · have g2 : 0 ≤ gbs w h c (i : Int) ∧ gbs w h c (i : Int) < 81 := by omega
        rw [if_neg g, if_pos g2, P.2.2.2.2 _ g2.1 g2.2]
        by_cases u : o (gbs w h c (i : Int)) = p + 1
        · rw [if_pos (by omega), wr_eq (by omega) (by omega)]
          exact ⟨(_, _), rfl, rfl, by rw [gcn_s (P := fun s => o (gbs w h c s) = p + 1) u, ← hy]⟩
        · rw [if_neg (by omega), Int.add_zero, wr_eq (by omega) (by omega)]
          exact ⟨(_, _), rfl, rfl, by rw [gcn_n (P := fun s => o (gbs w h c s) = p + 1) u, ← hy]⟩
    · rintro ⟨x', y'⟩ ⟨hx, hy⟩
      have hx : y' = ((6 : Nat) : Int) := hx
      subst hx
      refine ⟨x', ?_, hy⟩
      show fX14_stonesBeside_b33 M p x y x' ((6 : Nat) : Int) = _
      unfold fX14_stonesBeside_b33
      rw [if_neg (by omega)]
  obtain ⟨r, e, rfl⟩ := key
  exact e
/-- how many cells are frozen -/
theorem C_frozenN (P : Pd M w h o) : fX12_frozenCells M = some (gcn (gfz w h o) (w * h).toNat) := by
  have hN := P.n
  have key : ∃ r, lp (fun q => fX12_frozenCells_b4 M q.1 q.2) lpN (0, 0) = some r ∧ r = gcn (gfz w h o) (w * h).toNat := by
    refine lpn (w * h).toNat (by omega) (fun i q => q.2 = (i : Int) ∧ q.1 = gcn (gfz w h o) i) _ _ ⟨rfl, rfl⟩ ?_ ?_
    · rintro i ⟨x, y⟩ hi ⟨hx, hy⟩
      right
      have hx : y = (i : Int) := hx
      subst hx
      have hy : x = gcn (gfz w h o) i := hy
      have hb := gcn_b (gfz w h o) i
      show ∃ s', fX12_frozenCells_b4 M x (i : Int) = some (.inl s') ∧ _
      unfold fX12_frozenCells_b4
      rw [P_cells P.1, if_pos (by omega), C_iced P (by omega) (by omega), bd1_s]
      by_cases z : gfz w h o (i : Int)
      · rw [gat_t z, if_neg (by omega), wr_eq (by omega) (by omega)]
        exact ⟨(_, _), rfl, rfl, by rw [gcn_s z, ← hy]⟩
      · rw [gat_f z, if_pos rfl]
        exact ⟨(_, _), rfl, rfl, by rw [gcn_n z, ← hy]⟩
    · rintro ⟨x, y⟩ ⟨hx, hy⟩
      have hx : y = ((w * h).toNat : Int) := hx
      subst hx
      refine ⟨x, ?_, hy⟩
      show fX12_frozenCells_b4 M x ((w * h).toNat : Int) = _
      unfold fX12_frozenCells_b4
      rw [P_cells P.1, if_neg (by omega)]
  obtain ⟨r, e, rfl⟩ := key
  unfold fX12_frozenCells
  rw [e]
  rfl
theorem Q_frozenN (P : Md M w h o) : ∃ M', fX14_allFrozen M = some (gcn (gfz w h o) (w * h).toNat, M') ∧ Fr sM M M' := by
  have hN := gOk_le P.1
  have key : ∃ r, lp (fun q => fX14_allFrozen_b4 q.2.2 q.1 q.2.1) lpN (0, 0, M) = some r ∧ r.1 = gcn (gfz w h o) (w * h).toNat ∧ Fr sM M r.2 := by
    refine lpn (w * h).toNat (by omega) (fun i q => q.2.1 = (i : Int) ∧ q.1 = gcn (gfz w h o) i ∧ Fr sM M q.2.2) _ _ ⟨rfl, rfl, Fr.refl _ _⟩ ?_ ?_
    · rintro i ⟨x, y, M1⟩ hi ⟨hx, hy, f1⟩
      right
      have hx : y = (i : Int) := hx
      subst hx
      have hy : x = gcn (gfz w h o) i := hy
      have f1 : Fr sM M M1 := f1
      have hb := gcn_b (gfz w h o) i
      have P1 := P.fr f1 sM_pond
      obtain ⟨M2, e2, f2⟩ := Q_frozen P1 (c := (i : Int)) (by omega) (by omega)
      show ∃ s', fX14_allFrozen_b4 M1 x (i : Int) = some (.inl s') ∧ _
      unfold fX14_allFrozen_b4
      rw [Q_cells P1, if_pos (by omega), e2, bd2_s]
      by_cases z : gfz w h o (i : Int)
      · rw [gat_t z, if_neg (by omega), wr_eq (by omega) (by omega)]
        exact ⟨(_, _, _), rfl, rfl, by rw [gcn_s z, ← hy], f1.trans f2⟩
      · rw [gat_f z, if_pos rfl, Int.add_zero, wr_eq (by omega) (by omega)]
        exact ⟨(_, _, _), rfl, rfl, by rw [gcn_n z, ← hy], f1.trans f2⟩
    · rintro ⟨x, y, M1⟩ ⟨hx, hy, f1⟩
      have hx : y = ((w * h).toNat : Int) := hx
      subst hx
      refine ⟨(x, M1), ?_, hy, f1⟩
      show fX14_allFrozen_b4 M1 x ((w * h).toNat : Int) = _
      unfold fX14_allFrozen_b4
      rw [Q_cells (P.fr (show Fr sM M M1 from f1) sM_pond), if_neg (by omega)]
  obtain ⟨⟨r, M'⟩, e, k1, k2⟩ := key
  refine ⟨M', ?_, k2⟩
  have k1 : r = gcn (gfz w h o) (w * h).toNat := k1
  unfold fX14_allFrozen
  rw [e, bd1_s, ← k1]
end PUT
