/-! part C: the calls, one by one: stones by plans -/
section CHK
variable {M : ax_M} {w h : Int} {o : Int → Int}
theorem gemp_0 {c s : Int} (z : gst w h o c s = 2) : o (gemp w h o c s) = 0 := by
  unfold gst at z
  unfold gemp
  by_cases b1 : o (gbs w h c s) = 0
  · rw [if_pos b1]; exact b1
  · rw [if_neg b1]
    by_cases a : o c = 0
    · rw [if_pos a] at z; omega
    · rw [if_neg a] at z
      by_cases f : gfar w h c s = -1
      · rw [if_pos f] at z; omega
      · rw [if_neg f] at z
        by_cases g : o (gfar w h c s) = o c
        · rw [if_pos g] at z
          by_cases d : o (gbs w h c s) = o c
          · rw [if_pos d] at z; omega
          · rw [if_neg d] at z
            by_cases d2 : o (gbs w h c (gnx s)) = o c
            · rw [if_pos d2] at z; omega
            · rw [if_neg d2, if_neg b1] at z
              by_cases b2 : o (gbs w h c (gnx s)) = 0
              · exact b2
              · rw [if_neg b2] at z; omega
        · rw [if_neg g] at z; omega
theorem gnr_ok (p : Int) : ∀ n : Nat, (gnr w h o p n).1 = -1 ∨ (0 ≤ (gnr w h o p n).1 ∧ (gnr w h o p n).1 < n ∧ o (gnr w h o p n).1 = 0)
  | 0 => Or.inl rfl
  | n + 1 => by
    have ih := gnr_ok p n
    show (if o (n : Int) = 0 ∧ gthr w h o p (n : Int) ≠ -1 ∧ gthr w h o p (n : Int) < (gnr w h o p n).2 then ((n : Int), gthr w h o p (n : Int)) else gnr w h o p n).1 = -1 ∨ _
    by_cases z : o (n : Int) = 0 ∧ gthr w h o p (n : Int) ≠ -1 ∧ gthr w h o p (n : Int) < (gnr w h o p n).2
    · have e : gnr w h o p (n + 1) = ((n : Int), gthr w h o p (n : Int)) := if_pos z
      rw [e]
      exact Or.inr ⟨by show (0 : Int) ≤ n; omega, by show (n : Int) < ((n + 1 : Nat) : Int); omega, z.1⟩
    · have e : gnr w h o p (n + 1) = gnr w h o p n := if_neg z
      rw [if_neg z, e]
      rcases ih with ih | ⟨a, b, c⟩
      · exact Or.inl ih
      · exact Or.inr ⟨a, by omega, c⟩
theorem gchs_ok (k : gOk w h) (p : Int) (n : Nat) (z : gchs M w h o p n ≠ -1) : 0 ≤ gchs M w h o p n ∧ gchs M w h o p n < w * h ∧ o (gchs M w h o p n) = 0 := by
  have hk := gOk_le k
  unfold gchs at z ⊢
  by_cases y : gfs (gtk M w h o p) n = -1
  · rw [if_pos y] at z; exact absurd rfl z
  · rw [if_neg y] at z ⊢
    generalize gfs (gtk M w h o p) n = i at z
    unfold gcel at z ⊢
    have win : ∀ p', gfs (gwinc w h o p') (w * h).toNat ≠ -1 → 0 ≤ gfs (gwinc w h o p') (w * h).toNat ∧ gfs (gwinc w h o p') (w * h).toNat < w * h ∧ o (gfs (gwinc w h o p') (w * h).toNat) = 0 := fun p' x => by
      rcases gfs_b (P := gwinc w h o p') (w * h).toNat with a | ⟨a, b, c⟩
      · exact absurd a x
      · exact ⟨a, c.2.1, c.2.2.1⟩
    by_cases m6 : mI M 211 i.toNat = 6
    · rw [if_pos m6] at z ⊢; exact win _ z
    · rw [if_neg m6] at z ⊢
      by_cases m7 : mI M 211 i.toNat = 7
      · rw [if_pos m7] at z ⊢; exact win _ z
      · rw [if_neg m7] at z ⊢
        by_cases m8 : mI M 211 i.toNat = 8
        · rw [if_pos m8] at z ⊢
          by_cases ex : ∃ v, gmin (gSe w h o (mI M 210 i.toNat) (3 * (w * h))) v
          · obtain ⟨v, hv⟩ := ex
            rw [gsav_is hv] at z ⊢
            rcases hv with ⟨a, _⟩ | ⟨⟨m, m0, m1, ⟨b1, b2⟩, ev⟩, _⟩
            · exact absurd a z
            · have g := gemp_nn k (c := m / 3) (s := m % 3) (by omega) (by omega) (by omega) (by omega) (by rw [b2]; decide)
              rw [ev]
              exact ⟨g.1, g.2, gemp_0 b2⟩
          · exfalso
            apply z
            unfold gsav
            exact dif_neg ex
        · rw [if_neg m8] at z ⊢
          by_cases m9 : mI M 211 i.toNat = 9
          · rw [if_pos m9] at z ⊢
            rcases gnr_ok (w := w) (h := h) (o := o) (mI M 210 i.toNat) (w * h).toNat with a | ⟨a, b, c⟩
            · exact absurd a z
            · exact ⟨a, by omega, c⟩
          · rw [if_neg m9] at z ⊢
            generalize gvl M w h o (mI M 214 i.toNat) = a at z ⊢
            generalize gvl M w h o (mI M 215 i.toNat) = b at z ⊢
            unfold gtold at z ⊢
            have e := gC_on k (a := a % w) (b := b % h) (Int.emod_nonneg _ (by have := k.1; omega)) (Int.emod_lt_of_pos _ (by have := k.1; omega)) (Int.emod_nonneg _ (by have := k.2.2.1; omega)) (Int.emod_lt_of_pos _ (by have := k.2.2.1; omega))
            by_cases t : o (gCell w h (a % w) (b % h)) = 0
            · rw [if_pos t]
              exact ⟨e.2.1, e.2.2.1, t⟩
            · rw [if_neg t] at z
              exact absurd rfl z
end CHK
def sPy : Nat → Nat → Prop := fun k j => k = 170 ∨ k = 174 ∨ k = 175 ∨ (k = 169 ∧ (j = 8 ∨ j = 9)) ∨ (179 ≤ k ∧ k ≤ 193)
def sPz : Nat → Nat → Prop := fun k j => (k = 203 ∧ (j = 17 ∨ j = 25)) ∨ k = 232 ∨ k = 233 ∨ k = 234 ∨ (236 ≤ k ∧ k ≤ 242)
def sBB (q : Nat) : Nat → Nat → Prop := fun k j => ¬ ((q ≤ k ∧ k ≤ q + 8) ∨ (208 ≤ k ∧ k ≤ 219) ∨ k = 233 ∨ k = 234 ∨ (k = 203 ∧ j = 17))
def sBC (q : Nat) : Nat → Nat → Prop := fun k j => ¬ ((q ≤ k ∧ k ≤ q + 8) ∨ (208 ≤ k ∧ k ≤ 219))
/-- the class while stones are laid by plans -/
def gPa (M : ax_M) (w h : Int) (o o' : Int → Int) (k v u : Int) (A : ax_M) : Prop :=
  (Pd A w h o' ∧ gWays A w h o' ∧ gBr A w h o' ∧ Fr sPy M A) ∧ (mI A 169 8 = k + v ∧ mI A 169 9 = mI M 169 9 + u ∧ k + v ≤ gcn (fun c => o' c ≠ 0) 81) ∧ (∀ j : Int, 0 ≤ j → j < k → mI A 175 j.toNat = mI M 175 j.toNat) ∧ (∀ j : Int, k ≤ j → j < k + v → 0 ≤ mI A 175 j.toNat ∧ mI A 175 j.toNat < w * h ∧ o (mI A 175 j.toNat) = 0 ∧ o' (mI A 175 j.toNat) ≠ 0) ∧ (∀ c : Int, (∀ j : Int, k ≤ j → j < k + v → mI A 175 j.toNat ≠ c) → o' c = o c) ∧ ∀ i j : Int, k ≤ i → i < j → j < k + v → mI A 175 i.toNat ≠ mI A 175 j.toNat
/-- the model while it plays -/
def gPb (B0 : ax_M) (w h : Int) (o' : Int → Int) (k kp v : Int) (A B : ax_M) : Prop := (Md B w h o' ∧ Fr sPz B0 B) ∧ (kp = 0 → mI B 203 17 = mI B0 203 17 ∧ ∀ j, mI B 234 j = mI B0 234 j) ∧ (kp ≠ 0 → mI B 203 17 = k + v ∧ ∀ j : Int, 0 ≤ j → j < k + v → mI B 234 j.toNat = mI A 175 j.toNat)
def gPy (M B0 : ax_M) (w h : Int) (o : Int → Int) (k kp v : Int) (A B : ax_M) : Prop := ∃ o', gPa M w h o o' k v v A ∧ gPb B0 w h o' k kp v A B
section CL5
variable {M M1 M2 N A B B0 : ax_M} {q q' : Nat} {w h : Int} {o o' : Int → Int} {k T e : Int} {b : Int → Int} {p x y c v u kp n : Int}
theorem gPa.fr {S : Nat → Nat → Prop} (H : gPa M w h o o' k v u A) (f : Fr S A N) (hS : ∀ k j, S k j → 179 ≤ k ∧ k ≤ 193) (W : gWays N w h o') (Br : gBr N w h o') : gPa M w h o o' k v u N := by
  obtain ⟨⟨a1, a2, a3, a4⟩, ⟨b1, b2, b3⟩, c1, c2, c3, c4⟩ := H
  have l5 : ∀ j, mI N 175 j = mI A 175 j := fun j => f.2 175 j (fun z => by have := hS _ _ z; omega)
  refine ⟨⟨a1.fr f (fun k j z y => by have := hS _ _ y; omega), W, Br, a4.trans (f.mono (fun k j z => by have := hS _ _ z; unfold sPy; omega))⟩, ⟨?_, ?_, b3⟩, fun j j0 j1 => ?_, fun j j0 j1 => ?_, fun c hc => ?_, fun i j i0 ij j1 => ?_⟩
  · rw [f.2 169 8 (fun z => by have := hS _ _ z; omega)]; exact b1
  · rw [f.2 169 9 (fun z => by have := hS _ _ z; omega)]; exact b2
  · rw [l5]; exact c1 j j0 j1
  · rw [l5]; exact c2 j j0 j1
  · refine c3 c (fun j j0 j1 => ?_)
    rw [← l5]; exact hc j j0 j1
  · rw [l5, l5]; exact c4 i j i0 ij j1
/-- one stone more -/
theorem gPa.lay (H : gPa M w h o o' k v u A) (k0 : 0 ≤ k) (v0 : 0 ≤ v) (c0 : 0 ≤ c) (c1 : c < w * h) (hc : o' c = 0) (hp : p = 0 ∨ p = 1) (hch : 0 ≤ mI A 169 9 ∧ mI A 169 9 < 2000000000) : ∃ A', fX8_lay A c p = some A' ∧ gPa M w h o (gput o' c (p + 1)) k (v + 1) (u + 1) A' ∧ mI A' 175 (k + v).toNat = c ∧ ∀ j : Int, 0 ≤ j → j ≠ k + v → mI A' 175 j.toNat = mI A 175 j.toNat := by
  obtain ⟨⟨a1, a2, a3, a4⟩, ⟨b1, b2, b3⟩, d1, d2, d3, d4⟩ := H
  have hn := gOk_le a1.k
  have g := gcn_lt (P := fun c => o' c ≠ 0) (c0 := c) 81 c0 (by omega) (fun z => z hc)
  obtain ⟨A', r, P', f, h9, h8, hl, hk⟩ := C_lay a1 c0 c1 hp hch b1 (by omega) (by omega)
  have oc : o c = 0 := by
    rw [← d3 c (fun j j0 j1 z => (d2 j j0 j1).2.2.2 (by rw [z]; exact hc))]
    exact hc
  have g2 := gcn_add (P := fun c => o' c ≠ 0) (Q := fun x => gput o' c (p + 1) x ≠ 0) 81 c0 (by omega) (fun z => z hc) (by rw [gput_s]; omega) (fun x _ _ xe => by rw [gput_n xe])
  refine ⟨A', r, ⟨⟨P', gWays_new a2 f (fun k j z => by unfold sL; omega) (by omega), gBr_new a3 f (fun k j z => by unfold sL; omega) (by omega), a4.trans (f.mono (fun k j z => by unfold sL at z; unfold sPy; omega))⟩, ⟨by omega, by omega, by omega⟩, fun j j0 j1 => ?_, fun j j0 j1 => ?_, fun x hx => ?_, fun i j i0 ij j1 => ?_⟩, hl, hk⟩
  · rw [hk j j0 (by omega)]; exact d1 j j0 j1
  · by_cases ej : j = k + v
    · rw [ej, hl]
      exact ⟨c0, c1, oc, by rw [gput_s]; omega⟩
    · rw [hk j (by omega) ej]
      obtain ⟨y1, y2, y3, y4⟩ := d2 j j0 (by omega)
      refine ⟨y1, y2, y3, ?_⟩
      rw [gput_n (fun z => y4 (by rw [z]; exact hc))]
      exact y4
  · have xc : x ≠ c := fun z => hx (k + v) (by omega) (by omega) (by rw [hl, z])
    rw [gput_n xc]
    exact d3 x (fun j j0 j1 => by rw [← hk j (by omega) (by omega)]; exact hx j j0 (by omega))
  · rw [hk i (by omega) (by omega)]
    by_cases ej : j = k + v
    · rw [ej, hl]
      exact fun z => (d2 i i0 (by omega)).2.2.2 (by rw [z]; exact hc)
    · rw [hk j (by omega) ej]
      exact d4 i j i0 ij (by omega)
/-- one stone less -/
theorem gPa.lift (H : gPa M w h o o' k (v + 1) u A) (k0 : 0 ≤ k) (v0 : 0 ≤ v) (hch : 0 ≤ mI A 169 9 ∧ mI A 169 9 < 2000000000) : ∃ A' c o2, fX8_liftLatest A = some (c, A') ∧ gPa M w h o o2 k v (u + 1) A' := by
  obtain ⟨⟨a1, a2, a3, a4⟩, ⟨b1, b2, b3⟩, d1, d2, d3, d4⟩ := H
  have hn := gOk_le a1.k
  have gb := gcn_b (fun c => o' c ≠ 0) 81
  obtain ⟨y1, y2, y3, y4⟩ := d2 (k + v) (by omega) (by omega)
  obtain ⟨A', r, P', f, h9, h8, hl⟩ := C_lift a1 (b := k + v) hch (by omega) (by omega) (by omega) y1 y2
  obtain ⟨c, hc⟩ : ∃ c, mI A 175 (k + v).toNat = c := ⟨_, rfl⟩
  rw [hc] at y1 y2 y3 y4 r P'
  have g2 := gcn_add (P := fun x => gput o' c 0 x ≠ 0) (Q := fun c => o' c ≠ 0) 81 y1 (by omega) (fun z => z gput_s) y4 (fun x _ _ xe => by rw [gput_n xe])
  have ne : ∀ j : Int, k ≤ j → j < k + v → mI A 175 j.toNat ≠ c := fun j j0 j1 => by
    have := d4 j (k + v) j0 j1 (by omega)
    rw [hc] at this
    exact this
  refine ⟨A', c, _, r, ⟨P', gWays_new a2 f (fun k j z => by unfold sL; omega) (by omega), gBr_new a3 f (fun k j z => by unfold sL; omega) (by omega), a4.trans (f.mono (fun k j z => by unfold sL at z; unfold sPy; omega))⟩, ⟨by omega, by omega, by omega⟩, fun j j0 j1 => ?_, fun j j0 j1 => ?_, fun x hx => ?_, fun i j i0 ij j1 => ?_⟩
  · rw [hl]; exact d1 j j0 j1
  · rw [hl]
    obtain ⟨z1, z2, z3, z4⟩ := d2 j j0 (by omega)
    exact ⟨z1, z2, z3, by rw [gput_n (ne j j0 j1)]; exact z4⟩
  · by_cases xc : x = c
    · rw [xc, gput_s, y3]
    · rw [gput_n xc]
      refine d3 x (fun j j0 j1 => ?_)
      by_cases ej : j = k + v
      · rw [ej, hc]; exact fun z => xc z.symm
      · rw [← hl]; exact hx j j0 (by omega)
  · rw [hl, hl]
    exact d4 i j i0 ij (by omega)
theorem C_liftN (H : gPa M w h o o' k v u A) (k0 : 0 ≤ k) (v0 : 0 ≤ v) (v1 : v ≤ 81) (u0 : 0 ≤ u) (u1 : u ≤ 81) (hch : 0 ≤ mI M 169 9 ∧ mI M 169 9 < 1000000000) : ∃ A', fX12_liftStones A v = some A' ∧ gPa M w h o o k 0 (u + v) A' := by
  have key : ∃ r, lp (fun s => fX12_liftStones_b2 s.2 v s.1) lpN (0, A) = some r ∧ gPa M w h o o k 0 (u + v) r := by
    refine lpn v.toNat (by omega) (fun i s => s.1 = (i : Int) ∧ ∃ o2, gPa M w h o o2 k (v - i) (u + i) s.2) _ _ ?_ ?_ ?_
    · refine ⟨rfl, o', ?_⟩
      show gPa M w h o o' k (v - ((0 : Nat) : Int)) (u + ((0 : Nat) : Int)) A
      rw [show v - ((0 : Nat) : Int) = v by omega, show u + ((0 : Nat) : Int) = u by omega]
      exact H
    · rintro i ⟨a, R⟩ hi ⟨ha, o2, HR⟩
      have ha : a = (i : Int) := ha
      subst ha
      have HR : gPa M w h o o2 k (v - i) (u + i) R := HR
      have n9 := HR.2.1.2.1
      rw [show v - (i : Int) = v - ((i + 1 : Nat) : Int) + 1 by omega] at HR
      obtain ⟨R', c, o3, r, H'⟩ := HR.lift k0 (by omega) (by omega)
      right
      refine ⟨((i : Int) + 1, R'), ?_, rfl, o3, ?_⟩
      · show fX12_liftStones_b2 R v (i : Int) = _
        unfold fX12_liftStones_b2
        rw [if_pos (by omega), r, bd2_s]
      · show gPa M w h o o3 k (v - ((i + 1 : Nat) : Int)) (u + ((i + 1 : Nat) : Int)) R'
        rw [show u + ((i + 1 : Nat) : Int) = u + i + 1 by omega]
        exact H'
    · rintro ⟨a, R⟩ ⟨ha, o2, HR⟩
      have ha : a = (v.toNat : Int) := ha
      subst ha
      have HR : gPa M w h o o2 k (v - (v.toNat : Int)) (u + (v.toNat : Int)) R := HR
      rw [show v - (v.toNat : Int) = 0 by omega, show u + (v.toNat : Int) = u + v by omega] at HR
      have eo : o2 = o := funext (fun c => HR.2.2.2.2.1 c (fun j j0 j1 => by omega))
      rw [eo] at HR
      refine ⟨R, ?_, HR⟩
      show fX12_liftStones_b2 R v (v.toNat : Int) = _
      unfold fX12_liftStones_b2
      rw [if_neg (by omega)]
  obtain ⟨r, h1, h2⟩ := key
  refine ⟨r, ?_, h2⟩
  unfold fX12_liftStones
  rw [h1, bd1_s]
theorem gPa.start (I : gI M q q' w h o k b T e) : gPa M w h o o k 0 0 M := by
  have L := I.2.2.2.2.2.2.1
  refine ⟨⟨I.2.1, I.2.2.2.1, I.2.2.2.2.1, Fr.refl _ _⟩, ⟨by rw [L.2.1]; omega, by omega, by have := L.2.2.2.1; omega⟩, fun _ _ _ => rfl, fun j j0 j1 => by omega, fun _ _ => rfl, fun i j i0 ij j1 => by omega⟩
theorem sPy_q (hq : q = 157 ∨ q = 194) : ∀ k j, (q ≤ k ∧ k ≤ q + 8) ∨ (208 ≤ k ∧ k ≤ 219) → ¬ sPy k j := by
  intro k j z
  unfold sPy
  omega
/-- class and model play in step -/
theorem L_play (I : gI M q q' w h o k b T e) (hch : 0 ≤ mI M 169 9 ∧ mI M 169 9 < 1000000000) (FB : Fx (sBB q) M B0) (n0 : 0 ≤ n) (n1 : n ≤ 81) (hkp : kp = 0 ∨ kp = 1) : ∃ v A B, fX12_playOn M n = some (v, A) ∧ fX14_play B0 n kp = some (v, B) ∧ gPy M B0 w h o k kp v A B ∧ 0 ≤ v ∧ v ≤ n := by
  have G := I.2.2.2.2.2.1
  have hq : q = 157 ∨ q = 194 := G.1
  have L := I.2.2.2.2.2.2.1
  have k0 := L.1
  have hk := gOk_le I.2.1.k
  have R9 := I.1.2.1
  have gB0 : ∀ w h o p n, gchs B0 w h o p n = gchs M w h o p n := (G.x FB (fun k j z => by unfold sBB; omega)).2
  have PB0 : gPl B0 q := (G.x FB (fun k j z => by unfold sBB; omega)).1
  have e3B : mI B0 208 3 = mI M 208 3 := (FB 208 3 (by omega) (by unfold sBB; omega)).1
  obtain ⟨r, z, h1, h2, h3⟩ := lp_sim (b1 := fun s : Int × ax_M => fX12_playOn_b2 s.2 n s.1) (b2 := fun s : Int × ax_M => fX14_play_b2 s.2 n kp s.1)
    (fun s t => s.1 = t.1 ∧ 0 ≤ s.1 ∧ s.1 ≤ n ∧ gPy M B0 w h o k kp s.1 s.2 t.2)
    (fun r z => ∃ v A B, (r = .inl (v, A) ∨ r = .inr (.inl (v, A)) ∨ (v = n ∧ r = .inr (.inr A))) ∧ (z = .inl (v, B) ∨ z = .inr (v, B)) ∧ gPy M B0 w h o k kp v A B ∧ 0 ≤ v ∧ v ≤ n)
    (fun s => (100 - s.1).toNat) (by
    rintro ⟨v, A⟩ ⟨v', B⟩ ⟨hv, v0, v1, hy⟩
    have hv : v = v' := hv
    subst hv
    have v0 : 0 ≤ v := v0
    have v1 : v ≤ n := v1
    have hy : gPy M B0 w h o k kp v A B := hy
    by_cases vn : v < n
    · obtain ⟨o', HA, ⟨HM, HF⟩, Hk0, Hk1⟩ := hy
      obtain ⟨N, rw1, W1, f1, A1⟩ := C_winner HA.1.1 HA.1.2.1
      obtain ⟨B1, rq1, g1⟩ := Q_over HM
      have B1r : gBr N w h o' := gBr_fr HA.1.2.2.1 f1 (fun k j z => by unfold sU; omega)
      have HN : gPa M w h o o' k v v N := HA.fr f1 (fun k j z => z |> fun z => by unfold sU at z; omega) W1 B1r
      have sVz : ∀ k j, sV k j → sPz k j := fun k j z => by unfold sV at z; unfold sPz; omega
      have HB1 : gPb B0 w h o' k kp v N B1 := by
        refine ⟨⟨HM.fr g1 sV_pond, HF.trans (g1.mono sVz)⟩, fun z => ?_, fun z => ?_⟩
        · obtain ⟨a, c⟩ := Hk0 z
          exact ⟨by rw [g1.2 203 17 (by unfold sV; omega)]; exact a, fun j => by rw [g1.2 234 j (by unfold sV; omega)]; exact c j⟩
        · obtain ⟨a, c⟩ := Hk1 z
          exact ⟨by rw [g1.2 203 17 (by unfold sV; omega)]; exact a, fun j j0 j1 => by rw [g1.2 234 _ (by unfold sV; omega), f1.2 175 _ (by unfold sU; omega)]; exact c j j0 j1⟩
      by_cases yy : gwr w h o' = -1
      · rw [if_pos yy] at rq1
        have GN : gPl N q := (G.x HN.1.2.2.2.x (sPy_q hq)).1
        have gN := (G.x HN.1.2.2.2.x (sPy_q hq)).2
        have e3N : mI N 208 3 = mI M 208 3 := HN.1.2.2.2.2 208 3 (by unfold sPy; omega)
        obtain ⟨N2, rc, W2, B2, f2⟩ := C_choose HN.1.1 W1 B1r GN (gturn o')
        rw [e3N, gN] at rc
        have FBa : Fx (sBC q) M B0 := FB.mono (fun k j _ z => by unfold sBB at z; unfold sBC; omega)
        have FBb : Fx (sBC q) B0 B1 := HB1.1.2.x.mono (fun k j _ z => by unfold sPz at z; unfold sBC; omega)
        have GB1 := G.x (FBa.trans FBb) (fun k j z => by unfold sBC; omega)
        have e3B1 : mI B1 208 3 = mI M 208 3 := by rw [HB1.1.2.2 208 3 (by unfold sPz; omega)]; exact e3B
        obtain ⟨B3, rp, g3⟩ := Q_planned HB1.1.1 GB1.1 (gturn o')
        rw [e3B1, GB1.2] at rp
        have HN2 : gPa M w h o o' k v v N2 := HN.fr f2 (fun k j z => by unfold sC at z; omega) W2 B2
        have sMvz : ∀ k j, sMv k j → sPz k j := fun k j z => by unfold sMv at z; unfold sPz; omega
        have HB3 : gPb B0 w h o' k kp v N2 B3 := by
          obtain ⟨⟨a1, a2⟩, a3, a4⟩ := HB1
          refine ⟨⟨a1.fr g3 sMv_pond, a2.trans (g3.mono sMvz)⟩, fun z => ?_, fun z => ?_⟩
          · obtain ⟨a, c⟩ := a3 z
            exact ⟨by rw [g3.2 203 17 (by unfold sMv; omega)]; exact a, fun j => by rw [g3.2 234 j (by unfold sMv; omega)]; exact c j⟩
          · obtain ⟨a, c⟩ := a4 z
            exact ⟨by rw [g3.2 203 17 (by unfold sMv; omega)]; exact a, fun j j0 j1 => by rw [g3.2 234 _ (by unfold sMv; omega), f2.2 175 _ (by unfold sC; omega)]; exact c j j0 j1⟩
        obtain ⟨c, hc⟩ : ∃ c, gchs M w h o' (gturn o') (mI M 208 3).toNat = c := ⟨_, rfl⟩
        rw [hc] at rc rp
        have redA : fX12_playOn_b2 A n v = (if c = (-1) then (some (.inr (.inr (.inl (v, N2))))) else (bd1 (fX8_lay N2 c (gturn o')) fun M115 => (some (.inl ((v + 1), M115))))) := by
          unfold fX12_playOn_b2
          rw [if_pos vn, rw1, bd2_s, if_pos yy, show mR N 150 9 = some q from by
            show N.2.1 150 9 = some q
            rw [HN.1.2.2.2.1]; exact R9]
          show (if (q = 157 ∨ q = 194) then (bd2 (fX2_choose N q (fX8_turn N)) _) else none) = _
          rw [if_pos hq, C_turn HN.1.1, rc, bd2_s]
        have redB : fX14_play_b2 B n kp v = (if c = (-1) then (some (.inr (.inl (v, B3)))) else (if 0 ≤ c ∧ c < 81 then (if kp = 0 then (some (.inl ((v + 1), (mUI B3 233 (Int.toNat c) (gturn o'))))) else (if 0 ≤ (mI (mUI B3 233 (Int.toNat c) (gturn o')) 203 17) ∧ (mI (mUI B3 233 (Int.toNat c) (gturn o')) 203 17) < 81 then (some (.inl ((v + 1), (mUI (mUI (mUI B3 233 (Int.toNat c) (gturn o')) 234 (Int.toNat (mI (mUI B3 233 (Int.toNat c) (gturn o')) 203 17)) c) 203 17 (wr ((mI (mUI (mUI B3 233 (Int.toNat c) (gturn o')) 234 (Int.toNat (mI (mUI B3 233 (Int.toNat c) (gturn o')) 203 17)) c) 203 17) + 1)))))) else none)) else none)) := by
          unfold fX14_play_b2
          rw [if_pos vn, rq1, bd2_s, if_pos rfl, Q_turn HB1.1.1, bd1_s, rp, bd2_s]
        by_cases c1 : c = -1
        · rw [if_pos c1] at redA redB
          exact Or.inl ⟨_, _, redA, redB, v, N2, B3, Or.inr (Or.inl rfl), Or.inl rfl, ⟨o', HN2, HB3⟩, v0, v1⟩
        · rw [if_neg c1] at redA redB
          have ok := gchs_ok (M := M) (w := w) (h := h) (o := o') I.2.1.k (gturn o') (mI M 208 3).toNat (by rw [hc]; exact c1)
          rw [hc] at ok
          obtain ⟨c0, cw, oc⟩ := ok
          have tb := gturn_b o'
          have n9 := HN2.2.1.2.1
          obtain ⟨A', rl, HA', hl, hk'⟩ := HN2.lay k0 v0 c0 cw oc tb (by omega)
          have kv : k + v < 81 := by
            have g := gcn_lt (P := fun c => o' c ≠ 0) (c0 := c) 81 c0 (by omega) (fun z => z oc)
            have := HN2.2.1.2.2
            omega
          rw [rl, bd1_s] at redA
          rw [if_pos ⟨c0, by omega⟩] at redB
          obtain ⟨⟨a1, a2⟩, a3, a4⟩ := HB3
          have MdP := Md_put a1 (v := gturn o') c0 cw (by omega)
          have fz : Fr sPz B0 (mUI B3 233 c.toNat (gturn o')) := a2.up (by unfold sPz; omega)
          rcases hkp with k00 | k11
          · rw [if_pos k00] at redB
            refine Or.inr ⟨_, _, redA, redB, ⟨rfl, by show 0 ≤ v + 1; omega, by show v + 1 ≤ n; omega, _, HA', ⟨MdP, fz⟩, fun z => ?_, fun z => absurd k00 z⟩, ?_⟩
            · obtain ⟨y1, y2⟩ := a3 z
              exact ⟨by show mI (mUI B3 233 c.toNat (gturn o')) 203 17 = _; rw [mI_Un (by omega)]; exact y1, fun j => by show mI (mUI B3 233 c.toNat (gturn o')) 234 j = _; rw [mI_Un (by omega)]; exact y2 j⟩
            · show (100 - (v + 1)).toNat < (100 - v).toNat
              omega
          · have kn : ¬ kp = 0 := by omega
            obtain ⟨y1, y2⟩ := a4 kn
            have q17 : mI (mUI B3 233 c.toNat (gturn o')) 203 17 = k + v := by rw [mI_Un (by omega)]; exact y1
            rw [if_neg kn, q17, if_pos (show 0 ≤ k + v ∧ k + v < 81 by omega), mI_Un (M := mUI B3 233 c.toNat (gturn o')) (k := 234) (a := 203) (by omega), q17, wr_eq (x := k + v + 1) (by omega) (by omega)] at redB
            refine Or.inr ⟨_, _, redA, redB, ⟨rfl, by show 0 ≤ v + 1; omega, by show v + 1 ≤ n; omega, _, HA', ⟨MdP.fr (S := fun k j => k = 234 ∨ (k = 203 ∧ j = 17)) (((Fr.refl _ _).up (Or.inl rfl)).up (Or.inr ⟨rfl, rfl⟩)) (fun k j z => by omega), (fz.up (by unfold sPz; omega)).up (by unfold sPz; omega)⟩, fun z => absurd z kn, fun _ => ⟨?_, fun j j0 j1 => ?_⟩⟩, ?_⟩
            · show mI (mUI _ 203 17 (k + v + 1)) 203 17 = k + (v + 1)
              rw [mI_Us]; omega
            · have j1 : j < k + (v + 1) := j1
              show mI (mUI (mUI (mUI B3 233 c.toNat (gturn o')) 234 (k + v).toNat c) 203 17 (k + v + 1)) 234 j.toNat = mI A' 175 j.toNat
              rw [mI_Un (by omega), mI_Z _ _ _ (by omega) j0]
              by_cases ej : j = k + v
              · rw [if_pos ej, ej, hl]
              · rw [if_neg ej, mI_Un (by omega), hk' j j0 ej]
                exact y2 j j0 (by omega)
            · show (100 - (v + 1)).toNat < (100 - v).toNat
              omega
      · rw [if_neg yy] at rq1
        refine Or.inl ⟨.inl (v, N), .inr (v, B1), ?_, ?_, v, N, B1, Or.inl rfl, Or.inr rfl, ⟨o', HN, HB1⟩, v0, v1⟩
        · show fX12_playOn_b2 A n v = _
          unfold fX12_playOn_b2
          rw [if_pos vn, rw1, bd2_s, if_neg yy]
        · show fX14_play_b2 B n kp v = _
          unfold fX14_play_b2
          rw [if_pos vn, rq1, bd2_s, if_neg (by decide)]
    · refine Or.inl ⟨.inr (.inr A), .inr (v, B), ?_, ?_, v, A, B, Or.inr (Or.inr ⟨by omega, rfl⟩), Or.inr rfl, hy, v0, v1⟩
      · show fX12_playOn_b2 A n v = _
        unfold fX12_playOn_b2
        rw [if_neg vn]
      · show fX14_play_b2 B n kp v = _
        unfold fX14_play_b2
        rw [if_neg vn]) lpN (0, M) (0, B0) ⟨rfl, Int.le_refl _, n0, o, gPa.start I, ⟨(I.2.2.1.x FB (fun k j z => by unfold sBB; omega) |> fun z => z), Fr.refl _ _⟩, fun _ => ⟨rfl, fun _ => rfl⟩, fun _ => ⟨by show mI B0 203 17 = k + 0; rw [(FB 203 17 (by omega) (by unfold sBB; omega)).1, L.2.2.1]; omega, fun j j0 j1 => by
        show mI B0 234 j.toNat = mI M 175 j.toNat
        rw [(FB 234 _ (by omega) (by unfold sBB; omega)).1]
        exact (L.2.2.2.2.1 j j0 (by have j1 : j < k + 0 := j1; omega)).1⟩⟩ (by show (100 - (0 : Int)).toNat < lpN; decide)
  obtain ⟨v, A, B, hr, hz, hy, v0, v1⟩ := h3
  refine ⟨v, A, B, ?_, ?_, hy, v0, v1⟩
  · unfold fX12_playOn
    rw [h1]
    rcases hr with rfl | rfl | ⟨rfl, rfl⟩
    · rw [bdS_l]
    · rw [bdS_r, bdS_l]
    · rw [bdS_r, bdS_r]
  · unfold fX14_play
    rw [h2]
    rcases hz with rfl | rfl
    · rw [bdS_l]
    · rw [bdS_r]
end CL5
