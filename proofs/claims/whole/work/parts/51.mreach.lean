/-! part C: the model's distances -/
def sR (K : Nat) : Nat → Nat → Prop := fun k _ => k = K
theorem sR_pond {K : Nat} (hK : K = 236 ∨ K = 237) : ∀ k j, (k = 208 ∧ j < 2) ∨ k = 233 → ¬ sR K k j := by
  intro k j h1 h2
  unfold sR at h2
  omega
def gsm (f : Int → Int) : Nat → Int
  | 0 => 0
  | n + 1 => gsm f n + f n
theorem gsm_c {f g : Int → Int} : ∀ n : Nat, (∀ c : Int, 0 ≤ c → c < n → f c = g c) → gsm f n = gsm g n
  | 0, _ => rfl
  | n + 1, h => by
    show gsm f n + f n = gsm g n + g n
    rw [gsm_c n (fun c a b => h c a (by omega)), h n (by omega) (by omega)]
theorem gsm_b {f : Int → Int} {B : Int} : ∀ n : Nat, (∀ c : Int, 0 ≤ c → c < n → 0 ≤ f c ∧ f c ≤ B) → 0 ≤ gsm f n ∧ gsm f n ≤ B * n
  | 0, _ => by
    show (0 : Int) ≤ 0 ∧ (0 : Int) ≤ B * ((0 : Nat) : Int)
    rw [show ((0 : Nat) : Int) = 0 from rfl, Int.mul_zero]
    omega
  | n + 1, h => by
    have ih := gsm_b n (fun c a b => h c a (by omega))
    have := h n (by omega) (by omega)
    show 0 ≤ gsm f n + f n ∧ gsm f n + f n ≤ B * ((n + 1 : Nat) : Int)
    rw [show ((n + 1 : Nat) : Int) = (n : Int) + 1 by omega, Int.mul_add, Int.mul_one]
    omega
theorem gsm_up {f g : Int → Int} {c0 : Int} : ∀ n : Nat, 0 ≤ c0 → c0 < n → (∀ c : Int, 0 ≤ c → c < n → c ≠ c0 → g c = f c) → gsm g n = gsm f n + (g c0 - f c0)
  | 0, a, b, _ => by omega
  | n + 1, a, b, h => by
    show gsm g n + g n = gsm f n + f n + (g c0 - f c0)
    by_cases z : c0 = n
    · rw [gsm_c n (fun c a b => h c a (by omega) (by omega)), ← z]
      omega
    · rw [gsm_up n a (by omega) (fun c a b d => h c a (by omega) d), h n (by omega) (by omega) (by omega)]
      omega
/-- a memory that has a pond's picture -/
theorem Pd_ex {w h : Int} {o : Int → Int} (k : gOk w h) (g : gOwn w h o) : ∃ M, Pd M w h o := by
  refine ⟨(fun a b => if a = 169 then (if b = 0 then w else h) else if a = 170 then o b else if a = 171 then gbs w h ((b : Int) / 6) ((b : Int) % 6) else if a = 172 then (b : Int) % w else if a = 173 then (b : Int) / w else if b = 0 then gcn (fun c => o c = 1) 81 else gcn (fun c => o c = 2) 81, ax_M0.2), ⟨k, rfl, rfl, fun c s c0 c1 s0 s1 => ?_, fun c c0 c1 => ⟨?_, ?_⟩⟩, g, fun c c0 c1 => ?_, rfl, rfl⟩
  · show gbs w h ((((c * 6 + s).toNat : Nat) : Int) / 6) ((((c * 6 + s).toNat : Nat) : Int) % 6) = _
    rw [show (((c * 6 + s).toNat : Nat) : Int) = c * 6 + s by omega, show (c * 6 + s) / 6 = c by omega, show (c * 6 + s) % 6 = s by omega]
  · show ((c.toNat : Nat) : Int) % w = _
    rw [show ((c.toNat : Nat) : Int) = c by omega]
  · show ((c.toNat : Nat) : Int) / w = _
    rw [show ((c.toNat : Nat) : Int) = c by omega]
  · show o ((c.toNat : Nat) : Int) = _
    rw [show ((c.toNat : Nat) : Int) = c by omega]
def gR (M : ax_M) (w h : Int) (o : Int → Int) (p s : Int) (K : Nat) : Prop := ∀ c : Int, 0 ≤ c → c < w * h → 0 ≤ mI M K c.toNat ∧ (mI M K c.toNat = 9999 ∨ (mI M K c.toNat < 9999 ∧ gW w h o p s c (mI M K c.toNat))) ∧ (gal w h o p c → gsh w h p s c → mI M K c.toNat ≤ gcost o c)
/-- as the model writes a distance -/
noncomputable def gdm (w h : Int) (o : Int → Int) (p s c : Int) : Int := if gd w h o p s c = 1000 then 9999 else gd w h o p s c
section MRE
variable {M : ax_M} {w h : Int} {o : Int → Int} {p s : Int} {K : Nat}
theorem Q_re1 (P : Md M w h o) (hK : K = 236 ∨ K = 237) (hp : p = 0 ∨ p = 1) : ∃ M', lp (fun q => fX14_reach_b3 q.2 K p s q.1) lpN (0, M) = some M' ∧ gR M' w h o p s K ∧ Fr (sR K) M M' := by
  have hN := gOk_le P.1
  refine lpn (w * h).toNat (by omega) (fun i q => q.1 = (i : Int) ∧ Fr (sR K) M q.2 ∧ ∀ c : Int, 0 ≤ c → c < (i : Int) → 0 ≤ mI q.2 K c.toNat ∧ (mI q.2 K c.toNat = 9999 ∨ (mI q.2 K c.toNat < 9999 ∧ gW w h o p s c (mI q.2 K c.toNat))) ∧ (gal w h o p c → gsh w h p s c → mI q.2 K c.toNat ≤ gcost o c)) _ _ ⟨rfl, Fr.refl _ _, fun c a b => by omega⟩ ?_ ?_
  · rintro i ⟨x, M1⟩ hi ⟨hx, f1, h1⟩
    right
    have hx : x = (i : Int) := hx
    subst hx
    have f1 : Fr (sR K) M M1 := f1
    have h1 : ∀ c : Int, 0 ≤ c → c < (i : Int) → 0 ≤ mI M1 K c.toNat ∧ (mI M1 K c.toNat = 9999 ∨ (mI M1 K c.toNat < 9999 ∧ gW w h o p s c (mI M1 K c.toNat))) ∧ (gal w h o p c → gsh w h p s c → mI M1 K c.toNat ≤ gcost o c) := h1
    have P1 := P.fr f1 (sR_pond hK)
    have i0 : 0 ≤ (i : Int) := by omega
    have i1 : (i : Int) < w * h := by omega
    have i2 : 0 ≤ (i : Int) ∧ (i : Int) < 81 := by omega
    have ob := P.2.1.2 (i : Int)
    have put : ∀ v, 0 ≤ v → (v = 9999 ∨ (v < 9999 ∧ gW w h o p s (i : Int) v)) → (gal w h o p (i : Int) → gsh w h p s (i : Int) → v ≤ gcost o (i : Int)) → fX14_reach_b3 M1 K p s (i : Int) = some (.inl ((i : Int) + 1, mUI M1 K (i : Int).toNat v)) → ∃ s' : Int × ax_M, fX14_reach_b3 M1 K p s (i : Int) = some (.inl s') ∧ s'.1 = ((i + 1 : Nat) : Int) ∧ Fr (sR K) M s'.2 ∧ ∀ c : Int, 0 ≤ c → c < ((i + 1 : Nat) : Int) → 0 ≤ mI s'.2 K c.toNat ∧ (mI s'.2 K c.toNat = 9999 ∨ (mI s'.2 K c.toNat < 9999 ∧ gW w h o p s c (mI s'.2 K c.toNat))) ∧ (gal w h o p c → gsh w h p s c → mI s'.2 K c.toNat ≤ gcost o c) := by
      intro v v0 v1 v2 e
      refine ⟨_, e, rfl, f1.up rfl, fun c c0 c1 => ?_⟩
      show 0 ≤ mI (mUI M1 K (i : Int).toNat v) K c.toNat ∧ (mI (mUI M1 K (i : Int).toNat v) K c.toNat = 9999 ∨ (mI (mUI M1 K (i : Int).toNat v) K c.toNat < 9999 ∧ gW w h o p s c (mI (mUI M1 K (i : Int).toNat v) K c.toNat))) ∧ (gal w h o p c → gsh w h p s c → mI (mUI M1 K (i : Int).toNat v) K c.toNat ≤ gcost o c)
      rw [mI_Z _ _ _ i0 c0]
      by_cases e : c = (i : Int)
      · rw [if_pos e, e]; exact ⟨v0, v1, v2⟩
      · rw [if_neg e]; exact h1 c c0 (by omega)
    by_cases hr : o (i : Int) - 1 = 1 - p
    · refine put 9999 (by omega) (Or.inl rfl) (fun ha => by have := ha.2.2; omega) ?_
      unfold fX14_reach_b3
      rw [Q_cells P1, if_pos i1, if_pos i2, P1.2.2.2.2 _ i0 i2.2, wr_eq (x := 1 - p) (by omega) (by omega), if_pos hr]
    · by_cases hz : gsh w h p s (i : Int)
      · have ha : gal w h o p (i : Int) := ⟨i0, i1, by omega⟩
        have gc := gcost_b o (i : Int)
        refine put (gcost o (i : Int)) (by omega) (Or.inr ⟨by omega, gW_base ha hz⟩) (fun _ _ => Int.le_refl _) ?_
        unfold fX14_reach_b3
        rw [Q_cells P1, if_pos i1, if_pos i2, P1.2.2.2.2 _ i0 i2.2, wr_eq (x := 1 - p) (by omega) (by omega), if_neg hr, Q_sh P1 p s i0 i1, bd1_s, if_pos hz, if_neg (by omega), Q_cost P1 i0 i2.2, bd1_s]
      · refine put 9999 (by omega) (Or.inl rfl) (fun _ y => absurd y hz) ?_
        unfold fX14_reach_b3
        rw [Q_cells P1, if_pos i1, if_pos i2, P1.2.2.2.2 _ i0 i2.2, wr_eq (x := 1 - p) (by omega) (by omega), if_neg hr, Q_sh P1 p s i0 i1, bd1_s, if_neg hz, if_pos rfl]
  · rintro ⟨x, M1⟩ ⟨hx, f1, h1⟩
    have hx : x = ((w * h).toNat : Int) := hx
    subst hx
    refine ⟨M1, ?_, fun c c0 c1 => h1 c c0 (by omega), f1⟩
    show fX14_reach_b3 M1 K p s ((w * h).toNat : Int) = _
    unfold fX14_reach_b3
    rw [Q_cells (P.fr (show Fr (sR K) M M1 from f1) (sR_pond hK)), if_neg (by omega)]
/-- the sum of the distances falls -/
abbrev gS9 (M : ax_M) (w h : Int) (K : Nat) : Int := gsm (fun c => mI M K c.toNat) (w * h).toNat
/-- one cell: all its sides -/
theorem Q_re2 (P : Md M w h o) (hK : K = 236 ∨ K = 237) (hp : p = 0 ∨ p = 1) (R : gR M w h o p s K) {c : Int} (c0 : 0 ≤ c) (c1 : c < w * h) (v : Int) :
    ∃ v' M', lp (fun q => fX14_reach_b84 q.2.2 K p c q.1 q.2.1) lpN (v, 0, M) = some (v', M') ∧ gR M' w h o p s K ∧ Fr (sR K) M M' ∧ ((v' = v ∧ M' = M ∧ (gal w h o p c → ∀ t : Int, 0 ≤ t → t < 6 → 0 ≤ gbs w h c t → mI M K c.toNat ≤ mI M K (gbs w h c t).toNat + gcost o c)) ∨ (v' = 1 ∧ gS9 M' w h K < gS9 M w h K)) := by
  have hN := gOk_le P.1
  have ob := P.2.1.2 c
  have c2 : 0 ≤ c ∧ c < 81 := by omega
  by_cases hr : o c - 1 = 1 - p
  · refine ⟨v, M, ?_, R, Fr.refl _ _, Or.inl ⟨rfl, rfl, fun ha => by have := ha.2.2; omega⟩⟩
    have e : (fun q : Int × Int × ax_M => fX14_reach_b84 q.2.2 K p c q.1 q.2.1) (v, 0, M) = some (.inr (v, M)) := by
      show fX14_reach_b84 M K p c v 0 = _
      unfold fX14_reach_b84
      rw [if_pos (by omega), if_pos c2, P.2.2.2.2 c c0 c2.2, wr_eq (x := 1 - p) (by omega) (by omega), if_pos hr]
    rw [show lpN = 999999 + 1 from rfl]
    exact lp_r e
  · have ha : gal w h o p c := ⟨c0, c1, by omega⟩
    have gc := gcost_b o c
    have key : ∃ r, lp (fun q => fX14_reach_b84 q.2.2 K p c q.1 q.2.1) lpN (v, 0, M) = some r ∧ gR r.2 w h o p s K ∧ Fr (sR K) M r.2 ∧ ((r.1 = v ∧ r.2 = M ∧ (∀ t : Int, 0 ≤ t → t < 6 → 0 ≤ gbs w h c t → mI M K c.toNat ≤ mI M K (gbs w h c t).toNat + gcost o c)) ∨ (r.1 = 1 ∧ gS9 r.2 w h K < gS9 M w h K)) := by
      refine lpn 6 (by omega) (fun i q => q.2.1 = (i : Int) ∧ gR q.2.2 w h o p s K ∧ Fr (sR K) M q.2.2 ∧ ((q.1 = v ∧ q.2.2 = M ∧ (∀ t : Int, 0 ≤ t → t < (i : Int) → 0 ≤ gbs w h c t → mI M K c.toNat ≤ mI M K (gbs w h c t).toNat + gcost o c)) ∨ (q.1 = 1 ∧ gS9 q.2.2 w h K < gS9 M w h K))) _ _ ⟨rfl, R, Fr.refl _ _, Or.inl ⟨rfl, rfl, fun t a b => by omega⟩⟩ ?_ ?_
      · rintro i ⟨v1, x, M1⟩ hi ⟨hx, R1, f1, h1⟩
        right
        have hx : x = (i : Int) := hx
        subst hx
        have R1 : gR M1 w h o p s K := R1
        have f1 : Fr (sR K) M M1 := f1
        have h1 : (v1 = v ∧ M1 = M ∧ (∀ t : Int, 0 ≤ t → t < (i : Int) → 0 ≤ gbs w h c t → mI M K c.toNat ≤ mI M K (gbs w h c t).toNat + gcost o c)) ∨ (v1 = 1 ∧ gS9 M1 w h K < gS9 M w h K) := h1
        have P1 := P.fr f1 (sR_pond hK)
        have i0 : 0 ≤ (i : Int) := by omega
        have i1 : (i : Int) < 6 := by omega
        have hbr := gbs_range P.1 c (i : Int)
        have start : fX14_reach_b84 M1 K p c v1 (i : Int) = if gbs w h c (i : Int) = -1 then some (.inl (v1, (i : Int) + 1, M1)) else if 0 ≤ gbs w h c (i : Int) ∧ gbs w h c (i : Int) < 81 then (if wr (mI M1 K (gbs w h c (i : Int)).toNat + gcost o c) < mI M1 K c.toNat then some (.inl (1, (i : Int) + 1, mUI M1 K c.toNat (wr (mI M1 K (gbs w h c (i : Int)).toNat + gcost o c)))) else some (.inl (v1, (i : Int) + 1, M1))) else none := by
          unfold fX14_reach_b84
          rw [if_pos i1, if_pos c2, P1.2.2.2.2 c c0 c2.2, wr_eq (x := 1 - p) (by omega) (by omega), if_neg hr, Q_bs P1 c0 c1 i0 i1, bd1_s, Q_cost P1 c0 c2.2, bd1_s, bd1_s]
        show ∃ s', fX14_reach_b84 M1 K p c v1 (i : Int) = some (.inl s') ∧ _
        rw [start]
        clear start
        by_cases b1 : gbs w h c (i : Int) = -1
        · rw [if_pos b1]
          refine ⟨(_, _, _), rfl, rfl, R1, f1, ?_⟩
          rcases h1 with ⟨a1, a2, a3⟩ | z
          · refine Or.inl ⟨a1, a2, fun t t0 t1 tz => ?_⟩
            by_cases e : t = (i : Int)
            · rw [e] at tz; omega
            · exact a3 t t0 (by omega) tz
          · exact Or.inr z
        · have b2 : 0 ≤ gbs w h c (i : Int) ∧ gbs w h c (i : Int) < w * h := by
            rcases hbr with z | z
            · exact absurd z b1
            · exact z
          obtain ⟨r1, r2, r3⟩ := R1 _ b2.1 b2.2
          obtain ⟨u1, u2, u3⟩ := R1 c c0 c1
          have bb : mI M1 K (gbs w h c (i : Int)).toNat ≤ 9999 := by
            rcases r2 with z | z
            · omega
            · exact Int.le_of_lt z.1
          have cb : mI M1 K c.toNat ≤ 9999 := by
            rcases u2 with z | z
            · omega
            · exact Int.le_of_lt z.1
          rw [if_neg b1, if_pos (show 0 ≤ gbs w h c (i : Int) ∧ gbs w h c (i : Int) < 81 by omega), wr_eq (x := mI M1 K (gbs w h c (i : Int)).toNat + gcost o c) (by omega) (by omega)]
          by_cases lt : mI M1 K (gbs w h c (i : Int)).toNat + gcost o c < mI M1 K c.toNat
          · rw [if_pos lt]
            have hw : gW w h o p s c (mI M1 K (gbs w h c (i : Int)).toNat + gcost o c) := by
              rcases r2 with z | z
              · omega
              · obtain ⟨t', t0', t1', e'⟩ := gbs_sym P.1 b2.1
                exact gW_step z.2 t0' t1' e' ha
            refine ⟨(_, _, _), rfl, rfl, fun d d0 d1 => ?_, f1.up rfl, Or.inr ⟨rfl, ?_⟩⟩
            · show 0 ≤ mI (mUI M1 K c.toNat (mI M1 K (gbs w h c (i : Int)).toNat + gcost o c)) K d.toNat ∧ (mI (mUI M1 K c.toNat (mI M1 K (gbs w h c (i : Int)).toNat + gcost o c)) K d.toNat = 9999 ∨ (mI (mUI M1 K c.toNat (mI M1 K (gbs w h c (i : Int)).toNat + gcost o c)) K d.toNat < 9999 ∧ gW w h o p s d (mI (mUI M1 K c.toNat (mI M1 K (gbs w h c (i : Int)).toNat + gcost o c)) K d.toNat))) ∧ (gal w h o p d → gsh w h p s d → mI (mUI M1 K c.toNat (mI M1 K (gbs w h c (i : Int)).toNat + gcost o c)) K d.toNat ≤ gcost o d)
              rw [mI_Z _ _ _ c0 d0]
              by_cases e : d = c
              · rw [if_pos e, e]
                refine ⟨by omega, Or.inr ⟨by omega, hw⟩, fun a b => ?_⟩
                have := u3 a b
                omega
              · rw [if_neg e]; exact R1 d d0 d1
            · show gS9 (mUI M1 K c.toNat (mI M1 K (gbs w h c (i : Int)).toNat + gcost o c)) w h K < gS9 M w h K
              have e1 : gS9 (mUI M1 K c.toNat (mI M1 K (gbs w h c (i : Int)).toNat + gcost o c)) w h K = gS9 M1 w h K + ((mI M1 K (gbs w h c (i : Int)).toNat + gcost o c) - mI M1 K c.toNat) := by
                have := gsm_up (f := fun c => mI M1 K c.toNat) (g := fun d => mI (mUI M1 K c.toNat (mI M1 K (gbs w h c (i : Int)).toNat + gcost o c)) K d.toNat) (c0 := c) (w * h).toNat c0 (by omega) (fun d d0 d1 e => by show mI (mUI M1 K c.toNat _) K d.toNat = mI M1 K d.toNat; rw [mI_Z _ _ _ c0 d0, if_neg e])
                have e2 : mI (mUI M1 K c.toNat (mI M1 K (gbs w h c (i : Int)).toNat + gcost o c)) K c.toNat = mI M1 K (gbs w h c (i : Int)).toNat + gcost o c := mI_Us _ _ _ _
                rw [e2] at this
                exact this
              have e3 : gS9 M1 w h K ≤ gS9 M w h K := by
                rcases h1 with ⟨_, a2, _⟩ | ⟨_, a2⟩
                · rw [a2]; exact Int.le_refl _
                · exact Int.le_of_lt a2
              rw [e1]
              omega
          · rw [if_neg lt]
            refine ⟨(_, _, _), rfl, rfl, R1, f1, ?_⟩
            rcases h1 with ⟨a1, a2, a3⟩ | z
            · refine Or.inl ⟨a1, a2, fun t t0 t1 tz => ?_⟩
              by_cases e : t = (i : Int)
              · rw [e, ← a2]; omega
              · exact a3 t t0 (by omega) tz
            · exact Or.inr z
      · rintro ⟨v1, x, M1⟩ ⟨hx, R1, f1, h1⟩
        have hx : x = ((6 : Nat) : Int) := hx
        subst hx
        refine ⟨(v1, M1), ?_, R1, f1, h1⟩
        show fX14_reach_b84 M1 K p c v1 ((6 : Nat) : Int) = _
        unfold fX14_reach_b84
        rw [if_neg (by omega)]
    obtain ⟨⟨v', M'⟩, e, k1, k2, k3⟩ := key
    refine ⟨v', M', e, k1, k2, ?_⟩
    rcases k3 with ⟨a1, a2, a3⟩ | z
    · exact Or.inl ⟨a1, a2, fun _ => a3⟩
    · exact Or.inr z
def gClo (M : ax_M) (w h : Int) (o : Int → Int) (p : Int) (K : Nat) : Prop := ∀ c : Int, gal w h o p c → ∀ t : Int, 0 ≤ t → t < 6 → 0 ≤ gbs w h c t → mI M K c.toNat ≤ mI M K (gbs w h c t).toNat + gcost o c
/-- one pass over all cells -/
theorem Q_re3 (P : Md M w h o) (hK : K = 236 ∨ K = 237) (hp : p = 0 ∨ p = 1) (R : gR M w h o p s K) :
    ∃ v' M', lp (fun q => fX14_reach_b72 q.2.2 K p q.1 q.2.1) lpN (0, 0, M) = some (v', M') ∧ gR M' w h o p s K ∧ Fr (sR K) M M' ∧ ((v' = 0 ∧ M' = M ∧ gClo M w h o p K) ∨ (v' = 1 ∧ gS9 M' w h K < gS9 M w h K)) := by
  have hN := gOk_le P.1
  have key : ∃ r, lp (fun q => fX14_reach_b72 q.2.2 K p q.1 q.2.1) lpN (0, 0, M) = some r ∧ gR r.2 w h o p s K ∧ Fr (sR K) M r.2 ∧ ((r.1 = 0 ∧ r.2 = M ∧ gClo M w h o p K) ∨ (r.1 = 1 ∧ gS9 r.2 w h K < gS9 M w h K)) := by
    refine lpn (w * h).toNat (by omega) (fun i q => q.2.1 = (i : Int) ∧ gR q.2.2 w h o p s K ∧ Fr (sR K) M q.2.2 ∧ ((q.1 = 0 ∧ q.2.2 = M ∧ (∀ c : Int, c < (i : Int) → gal w h o p c → ∀ t : Int, 0 ≤ t → t < 6 → 0 ≤ gbs w h c t → mI M K c.toNat ≤ mI M K (gbs w h c t).toNat + gcost o c)) ∨ (q.1 = 1 ∧ gS9 q.2.2 w h K < gS9 M w h K))) _ _ ⟨rfl, R, Fr.refl _ _, Or.inl ⟨rfl, rfl, fun c c1 ca => by have := ca.1; omega⟩⟩ ?_ ?_
    · rintro i ⟨v1, x, M1⟩ hi ⟨hx, R1, f1, h1⟩
      right
      have hx : x = (i : Int) := hx
      subst hx
      have R1 : gR M1 w h o p s K := R1
      have f1 : Fr (sR K) M M1 := f1
      have P1 := P.fr f1 (sR_pond hK)
      have h1 : (v1 = 0 ∧ M1 = M ∧ (∀ c : Int, c < (i : Int) → gal w h o p c → ∀ t : Int, 0 ≤ t → t < 6 → 0 ≤ gbs w h c t → mI M K c.toNat ≤ mI M K (gbs w h c t).toNat + gcost o c)) ∨ (v1 = 1 ∧ gS9 M1 w h K < gS9 M w h K) := h1
      obtain ⟨v2, M2, e, R2, f2, h2⟩ := Q_re2 P1 hK hp R1 (c := (i : Int)) (by omega) (by omega) v1
      show ∃ s', fX14_reach_b72 M1 K p v1 (i : Int) = some (.inl s') ∧ _
      have e2 : fX14_reach_b72 M1 K p v1 (i : Int) = some (.inl (v2, (i : Int) + 1, M2)) := by
        unfold fX14_reach_b72
        rw [Q_cells P1, if_pos (by omega), e]
        rfl
      rw [e2]
      refine ⟨(_, _, _), rfl, rfl, R2, f1.trans f2, ?_⟩
      rcases h1 with ⟨a1, a2, a3⟩ | ⟨a1, a2⟩
      · rcases h2 with ⟨b1, b2, b3⟩ | ⟨b1, b2⟩
        · refine Or.inl ⟨b1.trans a1, b2.trans a2, fun c cc ca => ?_⟩
          by_cases ec : c = (i : Int)
          · rw [ec, ← a2]
            exact b3 (by rw [← ec]; exact ca)
          · exact a3 c (by omega) ca
        · exact Or.inr ⟨b1, by rw [← a2]; exact b2⟩
      · rcases h2 with ⟨b1, b2, b3⟩ | ⟨b1, b2⟩
        · exact Or.inr ⟨b1.trans a1, by show gS9 M2 w h K < gS9 M w h K; rw [b2]; exact a2⟩
        · exact Or.inr ⟨b1, by show gS9 M2 w h K < gS9 M w h K; omega⟩
    · rintro ⟨v1, x, M1⟩ ⟨hx, R1, f1, h1⟩
      have hx : x = ((w * h).toNat : Int) := hx
      subst hx
      refine ⟨(v1, M1), ?_, R1, f1, ?_⟩
      · show fX14_reach_b72 M1 K p v1 ((w * h).toNat : Int) = _
        unfold fX14_reach_b72
        rw [Q_cells (P.fr (show Fr (sR K) M M1 from f1) (sR_pond hK)), if_neg (by omega)]
      · rcases h1 with ⟨a1, a2, a3⟩ | z
        · exact Or.inl ⟨a1, a2, fun c ca => a3 c (by have := ca.2.1; omega) ca⟩
        · exact Or.inr z
  obtain ⟨⟨v', M'⟩, e, k⟩ := key
  exact ⟨v', M', e, k⟩
theorem Q_reach (P : Md M w h o) (hK : K = 236 ∨ K = 237) (hp : p = 0 ∨ p = 1) : ∃ M', fX14_reach M K p s = some M' ∧ Fr (sR K) M M' ∧ ∀ c : Int, 0 ≤ c → c < w * h → mI M' K c.toNat = gdm w h o p s c := by
  have hN := gOk_le P.1
  obtain ⟨M1, e1, R1, f1⟩ := Q_re1 (s := s) P hK hp
  have sb : ∀ M2, gR M2 w h o p s K → 0 ≤ gS9 M2 w h K ∧ gS9 M2 w h K ≤ 9999 * ((w * h).toNat : Int) := fun M2 R2 => gsm_b (w * h).toNat (fun c c0 c1 => by
    obtain ⟨u1, u2, _⟩ := R2 c c0 (by omega)
    refine ⟨u1, ?_⟩
    rcases u2 with z | z
    · exact Int.le_of_eq z
    · exact Int.le_of_lt z.1)
  have key : ∃ r, lp (fun q => fX14_reach_b61 q.2 K p q.1) lpN (1, M1) = some r ∧ gR r w h o p s K ∧ Fr (sR K) M r ∧ gClo r w h o p K := by
    refine lpm (fun q => gR q.2 w h o p s K ∧ Fr (sR K) M q.2 ∧ ((q.1 = 0 ∧ gClo q.2 w h o p K) ∨ q.1 = 1)) (fun q => (gS9 q.2 w h K + q.1).toNat) _ _ ⟨R1, f1, Or.inr rfl⟩ ?_ ?_
    · show (gS9 M1 w h K + 1).toNat < 1000000
      have := sb M1 R1
      omega
    · rintro ⟨v1, M2⟩ ⟨R2, f2, h2⟩
      have R2 : gR M2 w h o p s K := R2
      have f2 : Fr (sR K) M M2 := f2
      rcases h2 with ⟨h2, h3⟩ | h2
      · left
        have h2 : v1 = 0 := h2
        refine ⟨M2, ?_, R2, f2, h3⟩
        show fX14_reach_b61 M2 K p v1 = _
        unfold fX14_reach_b61
        rw [if_pos h2]
      · right
        have h2 : v1 = 1 := h2
        obtain ⟨v3, M3, e3, R3, f3, h4⟩ := Q_re3 (P.fr f2 (sR_pond hK)) hK hp R2
        refine ⟨(v3, M3), ?_, ⟨R3, f2.trans f3, ?_⟩, ?_⟩
        · show fX14_reach_b61 M2 K p v1 = _
          unfold fX14_reach_b61
          rw [if_neg (by omega), e3]
          rfl
        · rcases h4 with ⟨a1, a2, a3⟩ | ⟨a1, _⟩
          · exact Or.inl ⟨a1, by show gClo M3 w h o p K; rw [a2]; exact a3⟩
          · exact Or.inr a1
        · show (gS9 M3 w h K + v3).toNat < (gS9 M2 w h K + v1).toNat
          have s2 := sb M2 R2
          have s3 := sb M3 R3
          rcases h4 with ⟨a1, a2, _⟩ | ⟨a1, a2⟩
          · rw [a2, a1]; omega
          · omega
  obtain ⟨M2, e2, R2, f2, C2⟩ := key
  refine ⟨M2, ?_, f2, fun c c0 c1 => ?_⟩
  · unfold fX14_reach
    rw [e1, bd1_s, e2]
    rfl
  · have low : ∀ c n, gW w h o p s c n → mI M2 K c.toNat ≤ n := by
      intro c n hc
      refine gW_ind (Q := fun c n => mI M2 K c.toNat ≤ n) (fun c a b => (R2 c a.1 a.2.1).2.2 a b) (fun b m t c hb ih t0 t1 e a => ?_) hc
      obtain ⟨t', t0', t1', e'⟩ := gbs_sym (s := t) (c := b) P.1 (by rw [e]; exact a.1)
      rw [e] at e'
      have hba := (gW_al hb).1
      have := C2 c a t' t0' t1' (by rw [e']; exact hba.1)
      rw [e'] at this
      omega
    obtain ⟨M0, P0⟩ := Pd_ex P.1 P.2.1
    obtain ⟨u1, u2, _⟩ := R2 c c0 c1
    unfold gdm
    rcases gd_cases (s := s) P0 (show 0 ≤ p ∧ p ≤ 1 by omega) c0 c1 with ⟨z1, z2⟩ | ⟨z1, z2, z3⟩
    · rw [if_pos z1]
      rcases u2 with y | y
      · exact y
      · exact absurd y.2 (z2 _)
    · have l := low c _ z1
      rw [if_neg (by omega)]
      rcases u2 with y | y
      · omega
      · have := z2 _ y.2
        omega
end MRE
