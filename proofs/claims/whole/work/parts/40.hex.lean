/-! part C: a stone more, and that not both win -/
def gput (o : Int → Int) (c v : Int) : Int → Int := fun x => if x = c then v else o x
theorem gput_s {o : Int → Int} {c v : Int} : gput o c v c = v := if_pos rfl
theorem gput_n {o : Int → Int} {c v x : Int} (h : x ≠ c) : gput o c v x = o x := if_neg h
section GWIN
variable {w h : Int} {o : Int → Int} {p c0 : Int}
theorem gwin_1 (hp : 0 ≤ p) (e0 : o c0 = 0) {s x n : Int} (H : gW w h (gput o c0 (p + 1)) p s x n) (hn : n = 0) (a0 : 0 ≤ c0) (a1 : c0 < w * h) : gW w h o p s x 0 ∨ (gW w h o p s c0 1 ∧ gC w h (fun c => gput o c0 (p + 1) c = p + 1) c0 x) := by
  refine gW_ind (Q := fun x n => n = 0 → gW w h o p s x 0 ∨ (gW w h o p s c0 1 ∧ gC w h (fun c => gput o c0 (p + 1) c = p + 1) c0 x)) ?_ ?_ H hn
  · intro c a b hc
    rcases gcost_b (gput o c0 (p + 1)) c with z | z
    · omega
    · by_cases hcc : c = c0
      · subst hcc
        refine Or.inr ⟨?_, gC_refl gput_s a0 a1⟩
        have q := gW_base (o := o) (p := p) (s := s) (c := c) ⟨a0, a1, Or.inl e0⟩ b
        rcases gcost_b o c with y | y
        · rw [y.1] at q; exact q
        · exact absurd e0 y.2
      · refine Or.inl ?_
        have hz := z.2
        obtain ⟨b0, b1, b2⟩ := a
        rw [gput_n hcc] at hz b2
        have q := gW_base (o := o) (p := p) (s := s) (c := c) ⟨b0, b1, b2⟩ b
        rcases gcost_b o c with y | y
        · exact absurd y.2 hz
        · rw [y.1] at q; exact q
  · intro b m t c Hb ih t0 t1 e a hm
    have hb := (gW_al Hb).2.1
    rcases gcost_b (gput o c0 (p + 1)) c with z | z
    · omega
    · have hm0 : m = 0 := by omega
      by_cases hcc : c = c0
      · subst hcc
        rcases ih hm0 with q | ⟨q, _⟩
        · refine Or.inr ⟨?_, gC_refl gput_s a0 a1⟩
          have q := gW_step q t0 t1 e ⟨a0, a1, Or.inl e0⟩
          rcases gcost_b o c with y | y
          · rw [y.1] at q; exact q
          · exact absurd e0 y.2
        · exact Or.inr ⟨q, gC_refl gput_s a0 a1⟩
      · have hz := z.2
        obtain ⟨b0, b1, b2⟩ := a
        rcases ih hm0 with q | ⟨q, q2⟩
        · refine Or.inl ?_
          rw [gput_n hcc] at hz b2
          have q := gW_step q t0 t1 e ⟨b0, b1, b2⟩
          rcases gcost_b o c with y | y
          · exact absurd y.2 hz
          · rw [y.1] at q; exact q
        · exact Or.inr ⟨q, gC_step q2 t0 t1 e b0 (by omega)⟩
theorem gwin_2 {o' : Int → Int} (hp : 0 ≤ p) {s z x : Int} (H : gC w h (fun c => o' c = p + 1) z x) (b : gsh w h p s z) (k : gOk w h) : gW w h o' p s x 0 := by
  have q0 : ∀ c, o' c = p + 1 → gcost o' c = 0 := fun c e => by
    rcases gcost_b o' c with y | y
    · omega
    · exact y.1
  refine gC_ind (Q := fun x => gW w h o' p s x 0) (fun u u0 u1 => ?_) (fun d t b hd q t0 t1 e b0 u => ?_) H
  · have q := gW_base (o := o') (p := p) (s := s) ⟨u0, u1, Or.inr u⟩ b
    rw [q0 _ u] at q
    exact q
  · have hb : b < w * h := by subst e; exact (gbs_xy k b0).1
    have q := gW_step q t0 t1 e ⟨b0, hb, Or.inr u⟩
    rw [q0 _ u] at q
    exact q
theorem gwin_3 {o' : Int → Int} (hp : 0 ≤ p) {s x n : Int} (H : gW w h o' p s x n) (hn : n = 0) : ∃ z, gsh w h p s z ∧ gC w h (fun c => o' c = p + 1) z x := by
  refine gW_ind (Q := fun x n => n = 0 → ∃ z, gsh w h p s z ∧ gC w h (fun c => o' c = p + 1) z x) ?_ ?_ H hn
  · intro c a b hc
    obtain ⟨a0, a1, a2⟩ := a
    rcases gcost_b o' c with y | y
    · omega
    · exact ⟨c, b, gC_refl (by show o' c = p + 1; omega) a0 a1⟩
  · intro b m t c Hb ih t0 t1 e a hm
    have hb := (gW_al Hb).2.1
    obtain ⟨a0, a1, a2⟩ := a
    rcases gcost_b o' c with y | y
    · omega
    · obtain ⟨z, z1, z2⟩ := ih (by omega)
      exact ⟨z, z1, gC_step z2 t0 t1 e a0 (by show o' c = p + 1; omega)⟩
theorem gwin_4 (hp : 0 ≤ p) (e0 : o c0 = 0) {s x n : Int} (H : gW w h o p s x n) (hn : n = 0) : gW w h (gput o c0 (p + 1)) p s x 0 := by
  refine gW_ind (Q := fun x n => n = 0 → gW w h (gput o c0 (p + 1)) p s x 0) ?_ ?_ H hn
  · intro c a b hc
    obtain ⟨a0, a1, a2⟩ := a
    rcases gcost_b o c with y | y
    · omega
    · have hcc : c ≠ c0 := fun e => y.2 (e ▸ e0)
      have q := gW_base (o := gput o c0 (p + 1)) (p := p) (s := s) (c := c) ⟨a0, a1, by rw [gput_n hcc]; exact a2⟩ b
      rcases gcost_b (gput o c0 (p + 1)) c with v | v
      · rw [gput_n hcc] at v; omega
      · rw [v.1] at q; exact q
  · intro b m t c Hb ih t0 t1 e a hm
    have hb := (gW_al Hb).2.1
    obtain ⟨a0, a1, a2⟩ := a
    rcases gcost_b o c with y | y
    · omega
    · have hcc : c ≠ c0 := fun e => y.2 (e ▸ e0)
      have q := gW_step (ih (by omega)) t0 t1 e ⟨a0, a1, by rw [gput_n hcc]; exact a2⟩
      rcases gcost_b (gput o c0 (p + 1)) c with v | v
      · rw [gput_n hcc] at v; omega
      · rw [v.1] at q; exact q
theorem gwin_5 (hp : 0 ≤ p) (e0 : o c0 = 0) {s : Int} (H : gW w h o p s c0 1) : gW w h (gput o c0 (p + 1)) p s c0 0 := by
  have hc : gcost (gput o c0 (p + 1)) c0 = 0 := by
    rcases gcost_b (gput o c0 (p + 1)) c0 with v | v
    · rw [gput_s] at v; omega
    · exact v.1
  have hc1 : gcost o c0 = 1 := by
    rcases gcost_b o c0 with v | v
    · exact v.1
    · exact absurd e0 v.2
  rcases gW_cases H with ⟨a, b, _⟩ | ⟨a, b, m, t, q, t0, t1, e, hm⟩
  · have q := gW_base (o := gput o c0 (p + 1)) (p := p) (s := s) (c := c0) ⟨a.1, a.2.1, Or.inr gput_s⟩ b
    rw [hc] at q; exact q
  · have q := gW_step (gwin_4 hp e0 q (by omega)) t0 t1 e ⟨a.1, a.2.1, Or.inr gput_s⟩
    rw [hc] at q; exact q
/-- a stone on an empty cell wins: a player has won before, or the best way through the cell needs this stone alone -/
theorem gwin (k : gOk w h) (hp : 0 ≤ p) (a0 : 0 ≤ c0) (a1 : c0 < w * h) (e0 : o c0 = 0) : (∃ z, gsh w h p 1 z ∧ gW w h (gput o c0 (p + 1)) p 0 z 0) ↔ (∃ z, gsh w h p 1 z ∧ gW w h o p 0 z 0) ∨ (gW w h o p 0 c0 1 ∧ gW w h o p 1 c0 1) := by
  have hc1 : gcost o c0 = 1 := by
    rcases gcost_b o c0 with v | v
    · exact v.1
    · exact absurd e0 v.2
  constructor
  · rintro ⟨z, z1, z2⟩
    rcases gwin_1 hp e0 z2 rfl a0 a1 with q | ⟨q, q2⟩
    · exact Or.inl ⟨z, z1, q⟩
    · refine Or.inr ⟨q, ?_⟩
      have q3 := gwin_2 hp (gC_sym k q2) z1 k
      rcases gwin_1 hp e0 q3 rfl a0 a1 with y | y
      · have := (gW_al y).2.2
        omega
      · exact y.1
  · rintro (⟨z, z1, z2⟩ | ⟨q1, q2⟩)
    · exact ⟨z, z1, gwin_4 hp e0 z2 rfl⟩
    · obtain ⟨z, z1, z2⟩ := gwin_3 hp (gwin_5 hp e0 q2) rfl
      refine ⟨z, z1, ?_⟩
      have z3 := gC_sym k z2
      refine gC_ind (Q := fun x => gW w h (gput o c0 (p + 1)) p 0 x 0) (fun _ _ _ => gwin_5 hp e0 q1) (fun d t b hd q t0 t1 e b0 u => ?_) z3
      have hb : b < w * h := by subst e; exact (gbs_xy k b0).1
      have q := gW_step q t0 t1 e ⟨b0, hb, Or.inr u⟩
      rcases gcost_b (gput o c0 (p + 1)) b with v | v
      · omega
      · rw [v.1] at q; exact q
end GWIN
/-! not both -/
abbrev gid (P : Prop) [Decidable P] : Int := if P then 1 else 0
def gHx (NB : Int → Int → Prop) (w s0 a r : Int) (T B : Int → Int → Int) : Prop :=
  (∀ y, T y 0 = 0 ∧ B y 0 = 0) ∧
  (∀ y x, NB x y → NB x (y + 1) → T y x % 2 = B y x % 2) ∧
  (∀ y x, NB x y → NB (x - 1) (y + 1) → T y x % 2 = B y (x - 1) % 2) ∧
  (∀ y x, NB x y → T y x = T y (x + 1)) ∧
  (∀ y x, NB x (y + 1) → B y x = B y (x + 1)) ∧
  (∀ y x, NB x y → (T y x + B (y - 1) x + gid (y = 0 ∧ s0 < x) + gid (y = r ∧ a < x)) % 2 = 0) ∧
  (∀ y, 0 ≤ y → (T y w + gid (y < r)) % 2 = 0 ∧ (B y w + gid (y < r)) % 2 = 0)
theorem gHx_0 {NB : Int → Int → Prop} {w a : Int} : gHx NB w a a 0 (fun _ _ => 0) (fun _ _ => 0) := by
  refine ⟨fun _ => ⟨rfl, rfl⟩, fun _ _ _ _ => rfl, fun _ _ _ _ => rfl, fun _ _ _ => rfl, fun _ _ _ => rfl, fun y x _ => ?_, fun y hy => ?_⟩
  · show (0 + 0 + (if y = 0 ∧ a < x then 1 else 0) + (if y = 0 ∧ a < x then 1 else 0) : Int) % 2 = 0
    split <;> decide
  · show ((0 + (if y < 0 then 1 else 0) : Int)) % 2 = 0 ∧ ((0 + (if y < 0 then 1 else 0) : Int)) % 2 = 0
    rw [if_neg (by omega)]
    decide
theorem gHx_h {NB : Int → Int → Prop} {w s0 a a' r : Int} {T B : Int → Int → Int} (H : gHx NB w s0 a r T B) (n1 : ¬ NB a r) (n2 : ¬ NB a' r) (e : a' = a + 1 ∨ a' = a - 1) : gHx NB w s0 a' r T B := by
  obtain ⟨h1, h2, h3, h4, h5, h6, h7⟩ := H
  refine ⟨h1, h2, h3, h4, h5, fun y x hn => ?_, h7⟩
  have q := h6 y x hn
  have x1 : y = r → x ≠ a ∧ x ≠ a' := fun e1 => ⟨fun e2 => n1 (e2 ▸ e1 ▸ hn), fun e2 => n2 (e2 ▸ e1 ▸ hn)⟩
  have e3 : gid (y = r ∧ a' < x) = gid (y = r ∧ a < x) := by
    show (if y = r ∧ a' < x then 1 else 0 : Int) = (if y = r ∧ a < x then 1 else 0)
    omega
  rw [e3]
  exact q
/-- one crossing more, of the line between the rows y0 and y0 + 1, from column t (above) to column b (below) -/
theorem gHx_v {NB : Int → Int → Prop} {w s0 a r a' r' t b y0 : Int} {T B : Int → Int → Int} (H : gHx NB w s0 a r T B) (n1 : ¬ NB t y0) (n2 : ¬ NB b (y0 + 1)) (e : b = t ∨ b = t - 1) (t0 : 0 ≤ t) (t1 : t < w) (b0 : 0 ≤ b) (b1 : b < w) (hy0 : 0 ≤ y0)
    (ea : (a = t ∧ r = y0 ∧ a' = b ∧ r' = y0 + 1) ∨ (a = b ∧ r = y0 + 1 ∧ a' = t ∧ r' = y0)) :
    gHx NB w s0 a' r' (fun y x => T y x + gid (y = y0 ∧ t < x)) (fun y x => B y x + gid (y = y0 ∧ b < x)) := by
  obtain ⟨h1, h2, h3, h4, h5, h6, h7⟩ := H
  have nT : ∀ y x, NB x y → y = y0 → x ≠ t := fun y x hn e1 e2 => n1 (e2 ▸ e1 ▸ hn)
  have nB : ∀ y x, NB x y → y = y0 + 1 → x ≠ b := fun y x hn e1 e2 => n2 (e2 ▸ e1 ▸ hn)
  refine ⟨fun y => ?_, fun y x m1 m2 => ?_, fun y x m1 m2 => ?_, fun y x m1 => ?_, fun y x m1 => ?_, fun y x m1 => ?_, fun y hy => ?_⟩
  · have q := h1 y
    show T y 0 + (if y = y0 ∧ t < 0 then 1 else 0) = 0 ∧ B y 0 + (if y = y0 ∧ b < 0 then 1 else 0) = 0
    omega
  · have q := h2 y x m1 m2
    show (T y x + (if y = y0 ∧ t < x then 1 else 0)) % 2 = (B y x + (if y = y0 ∧ b < x then 1 else 0)) % 2
    have x1 := nT y x m1
    have x2 := nB (y + 1) x m2
    omega
  · have q := h3 y x m1 m2
    show (T y x + (if y = y0 ∧ t < x then 1 else 0)) % 2 = (B y (x - 1) + (if y = y0 ∧ b < x - 1 then 1 else 0)) % 2
    have x1 := nT y x m1
    have x2 := nB (y + 1) (x - 1) m2
    omega
  · have q := h4 y x m1
    show T y x + (if y = y0 ∧ t < x then 1 else 0) = T y (x + 1) + (if y = y0 ∧ t < x + 1 then 1 else 0)
    have x1 := nT y x m1
    omega
  · have q := h5 y x m1
    show B y x + (if y = y0 ∧ b < x then 1 else 0) = B y (x + 1) + (if y = y0 ∧ b < x + 1 then 1 else 0)
    have x2 := nB (y + 1) x m1
    omega
  · have q := h6 y x m1
    have q : (T y x + B (y - 1) x + gid (y = 0 ∧ s0 < x) + (if y = r ∧ a < x then 1 else 0)) % 2 = 0 := q
    show (T y x + (if y = y0 ∧ t < x then 1 else 0) + (B (y - 1) x + (if y - 1 = y0 ∧ b < x then 1 else 0)) + gid (y = 0 ∧ s0 < x) + (if y = r' ∧ a' < x then 1 else 0)) % 2 = 0
    generalize gid (y = 0 ∧ s0 < x) = g0 at q ⊢
    omega
  · have q := h7 y hy
    have q : (T y w + (if y < r then 1 else 0)) % 2 = 0 ∧ (B y w + (if y < r then 1 else 0)) % 2 = 0 := q
    show (T y w + (if y = y0 ∧ t < w then 1 else 0) + (if y < r' then 1 else 0)) % 2 = 0 ∧ (B y w + (if y = y0 ∧ b < w then 1 else 0) + (if y < r' then 1 else 0)) % 2 = 0
    omega
theorem gHx_blue {w h : Int} {o : Int → Int} (k : gOk w h) {v n : Int} (H : gW w h o 1 0 v n) (hn : n = 0) : ∃ s0 T B, gHx (fun x y => o (w * y + x) ≠ 2) w s0 (v % w) (v / w) T B := by
  have nb : ∀ c, gal w h o 1 c → gcost o c = 0 → ¬ (fun x y => o (w * y + x) ≠ 2) (c % w) (c / w) := fun c a e => by
    show ¬ (o (w * (c / w) + c % w) ≠ 2)
    rw [(gXY k a.1 a.2.1).2.2.2.2]
    obtain ⟨_, _, a2⟩ := a
    rcases gcost_b o c with y | y <;> omega
  refine (gW_ind (Q := fun v n => n = 0 → (gal w h o 1 v ∧ gcost o v = 0) ∧ ∃ s0 T B, gHx (fun x y => o (w * y + x) ≠ 2) w s0 (v % w) (v / w) T B) ?_ ?_ H hn).2
  · intro c a b hc
    refine ⟨⟨a, hc⟩, c % w, fun _ _ => 0, fun _ _ => 0, ?_⟩
    have b : c / w = 0 := b
    rw [b]
    exact gHx_0
  · intro b m t c Hb ih t0 t1 e a hm
    have hb := (gW_al Hb).2.1
    have hc0 : gcost o c = 0 := by rcases gcost_b o c with y | y <;> omega
    obtain ⟨⟨ab, cb⟩, s0, T, B, q⟩ := ih (by omega)
    refine ⟨⟨a, hc0⟩, s0, ?_⟩
    have n1 := nb b ab cb
    have n2 := nb c a hc0
    obtain ⟨x0, x1, y0, y1, _⟩ := gXY k ab.1 ab.2.1
    obtain ⟨u0, u1, v0, v1, _⟩ := gXY k a.1 a.2.1
    have hz : 0 ≤ gbs w h b t := by rw [e]; exact a.1
    obtain ⟨_, ex, ey⟩ := gbs_xy k hz
    rw [e] at ex ey
    rcases g6 t0 t1 with rfl | rfl | rfl | rfl | rfl | rfl
    · have ex : c % w = b % w + 1 := ex
      have ey : c / w = b / w + 0 := ey
      rw [show c / w = b / w by omega] at n2 ⊢
      exact ⟨T, B, gHx_h q n1 n2 (Or.inl ex)⟩
    · have ex : c % w = b % w + 0 := ex
      have ey : c / w = b / w + 1 := ey
      exact ⟨_, _, gHx_v (t := b % w) (b := c % w) (y0 := b / w) q n1 (by rw [← ey]; exact n2) (by omega) x0 x1 u0 u1 y0 (Or.inl ⟨rfl, rfl, rfl, ey⟩)⟩
    · have ex : c % w = b % w + -1 := ex
      have ey : c / w = b / w + 1 := ey
      exact ⟨_, _, gHx_v (t := b % w) (b := c % w) (y0 := b / w) q n1 (by rw [← ey]; exact n2) (by omega) x0 x1 u0 u1 y0 (Or.inl ⟨rfl, rfl, rfl, ey⟩)⟩
    · have ex : c % w = b % w + -1 := ex
      have ey : c / w = b / w + 0 := ey
      rw [show c / w = b / w by omega] at n2 ⊢
      exact ⟨T, B, gHx_h q n1 n2 (Or.inr (by omega))⟩
    · have ex : c % w = b % w + 0 := ex
      have ey : c / w = b / w + -1 := ey
      exact ⟨_, _, gHx_v (t := c % w) (b := b % w) (y0 := c / w) q n2 (by rw [show c / w + 1 = b / w by omega]; exact n1) (by omega) u0 u1 x0 x1 v0 (Or.inr ⟨rfl, by omega, rfl, rfl⟩)⟩
    · have ex : c % w = b % w + 1 := ex
      have ey : c / w = b / w + -1 := ey
      exact ⟨_, _, gHx_v (t := c % w) (b := b % w) (y0 := c / w) q n2 (by rw [show c / w + 1 = b / w by omega]; exact n1) (by omega) u0 u1 x0 x1 v0 (Or.inr ⟨rfl, by omega, rfl, rfl⟩)⟩
/-- not both have won -/
theorem gHex {w h : Int} {o : Int → Int} (k : gOk w h) {z z' : Int} (r1 : gsh w h 0 1 z) (r2 : gW w h o 0 0 z 0) (b1 : gsh w h 1 1 z') (b2 : gW w h o 1 0 z' 0) : False := by
  obtain ⟨s0, T, B, q⟩ := gHx_blue k b2 rfl
  obtain ⟨h1, h2, h3, h4, h5, h6, h7⟩ := q
  have b1 : z' / w = h - 1 := b1
  rw [b1] at h6 h7
  have h6' : ∀ y x, o (w * y + x) ≠ 2 → 0 < y → y < h - 1 → (T y x + B (y - 1) x) % 2 = 0 := fun y x hn y0 y1 => by
    have q : (T y x + B (y - 1) x + (if y = 0 ∧ s0 < x then 1 else 0) + (if y = h - 1 ∧ z' % w < x then 1 else 0)) % 2 = 0 := h6 y x hn
    rw [if_neg (by omega), if_neg (by omega)] at q
    omega
  have nr : ∀ c, gal w h o 0 c → gcost o c = 0 → o (w * (c / w) + c % w) ≠ 2 := fun c a e => by
    rw [(gXY k a.1 a.2.1).2.2.2.2]
    obtain ⟨_, _, a2⟩ := a
    rcases gcost_b o c with y | y <;> omega
  have key : gal w h o 0 z ∧ gcost o z = 0 ∧ (z / w < h - 1 → T (z / w) (z % w) % 2 = 0) ∧ (0 < z / w → B (z / w - 1) (z % w) % 2 = 0) := by
    refine gW_ind (Q := fun c n => n = 0 → gal w h o 0 c ∧ gcost o c = 0 ∧ (c / w < h - 1 → T (c / w) (c % w) % 2 = 0) ∧ (0 < c / w → B (c / w - 1) (c % w) % 2 = 0)) ?_ ?_ r2 rfl
    · intro c a b hc
      have b : c % w = 0 := b
      refine ⟨a, hc, fun _ => ?_, fun _ => ?_⟩
      · rw [b, (h1 _).1]; rfl
      · rw [b, (h1 _).2]; rfl
    · intro b m t c Hb ih t0 t1 e a hm
      have hb := (gW_al Hb).2.1
      have hc0 : gcost o c = 0 := by rcases gcost_b o c with y | y <;> omega
      obtain ⟨ab, cb, i1, i2⟩ := ih (by omega)
      refine ⟨a, hc0, ?_⟩
      have n1 := nr b ab cb
      have n2 := nr c a hc0
      obtain ⟨x0, x1, y0, y1, _⟩ := gXY k ab.1 ab.2.1
      obtain ⟨u0, u1, v0, v1, _⟩ := gXY k a.1 a.2.1
      have hz : 0 ≤ gbs w h b t := by rw [e]; exact a.1
      obtain ⟨_, ex, ey⟩ := gbs_xy k hz
      rw [e] at ex ey
      generalize c / w = cy at *
      generalize c % w = cx at *
      generalize b / w = y at *
      generalize b % w = x at *
      rcases g6 t0 t1 with rfl | rfl | rfl | rfl | rfl | rfl
      · have ex : cx = x + 1 := ex
        have ey : cy = y + 0 := ey
        obtain rfl : cy = y := by omega
        subst ex
        refine ⟨fun g => ?_, fun g => ?_⟩
        · rw [← h4 cy x n1]; exact i1 g
        · rw [← h5 (cy - 1) x (by rw [show cy - 1 + 1 = cy by omega]; exact n1)]; exact i2 g
      · have ex : cx = x + 0 := ex
        have ey : cy = y + 1 := ey
        obtain rfl : cx = x := by omega
        subst ey
        have j := i1 (by omega)
        rw [h2 y cx n1 n2] at j
        have j : B (y + 1 - 1) cx % 2 = 0 := by rw [show y + 1 - 1 = y by omega]; exact j
        refine ⟨fun g => ?_, fun _ => j⟩
        have := h6' (y + 1) cx n2 (by omega) g
        omega
      · have ex : cx = x + -1 := ex
        have ey : cy = y + 1 := ey
        obtain rfl : cx = x - 1 := by omega
        subst ey
        have j := i1 (by omega)
        rw [h3 y x n1 n2] at j
        have j : B (y + 1 - 1) (x - 1) % 2 = 0 := by rw [show y + 1 - 1 = y by omega]; exact j
        refine ⟨fun g => ?_, fun _ => j⟩
        have := h6' (y + 1) (x - 1) n2 (by omega) g
        omega
      · have ex : cx = x + -1 := ex
        have ey : cy = y + 0 := ey
        obtain rfl : cy = y := by omega
        obtain rfl : x = cx + 1 := by omega
        refine ⟨fun g => ?_, fun g => ?_⟩
        · rw [h4 cy cx n2]; exact i1 g
        · rw [h5 (cy - 1) cx (by rw [show cy - 1 + 1 = cy by omega]; exact n2)]; exact i2 g
      · have ex : cx = x + 0 := ex
        have ey : cy = y + -1 := ey
        obtain rfl : cx = x := by omega
        obtain rfl : y = cy + 1 := by omega
        have j := i2 (by omega)
        rw [show cy + 1 - 1 = cy by omega] at j
        have j2 := h2 cy cx n2 n1
        refine ⟨fun _ => by omega, fun g => ?_⟩
        have := h6' cy cx n2 g (by omega)
        omega
      · have ex : cx = x + 1 := ex
        have ey : cy = y + -1 := ey
        obtain rfl : x = cx - 1 := by omega
        obtain rfl : y = cy + 1 := by omega
        have j := i2 (by omega)
        rw [show cy + 1 - 1 = cy by omega] at j
        have j2 := h3 cy cx n2 n1
        refine ⟨fun _ => by omega, fun g => ?_⟩
        have := h6' cy cx n2 g (by omega)
        omega
  obtain ⟨a, cz, i1, i2⟩ := key
  have n1 := nr z a cz
  obtain ⟨x0, x1, y0, y1, _⟩ := gXY k a.1 a.2.1
  have r1 : z % w = w - 1 := r1
  rw [r1] at i1 i2 n1
  generalize z / w = y at *
  have q7 : ∀ y, 0 ≤ y → y < h - 1 → T y w % 2 = 1 ∧ B y w % 2 = 1 := fun y g0 g1 => by
    have q : (T y w + (if y < h - 1 then 1 else 0)) % 2 = 0 ∧ (B y w + (if y < h - 1 then 1 else 0)) % 2 = 0 := h7 y g0
    rw [if_pos g1] at q
    omega
  by_cases g : y < h - 1
  · have j := i1 g
    rw [h4 y (w - 1) n1, show w - 1 + 1 = w by omega] at j
    have := (q7 y y0 g).1
    omega
  · obtain ⟨_, _, k3, _⟩ := k
    have j := i2 (by omega)
    rw [h5 (y - 1) (w - 1) (by rw [show y - 1 + 1 = y by omega]; exact n1), show w - 1 + 1 = w by omega] at j
    have := (q7 (y - 1) (by omega) (by omega)).2
    omega
