/-! part C: bridges -/
def gnx (s : Int) : Int := if s + 1 < 6 then s + 1 else 0
def gfar (w h c s : Int) : Int := gbs w h (gbs w h c s) (gnx s)
def gfo (w s : Int) : Int := if s = 0 then w + 1 else if s = 1 then 2 * w - 1 else if s = 2 then w - 2 else if s = 3 then -w - 1 else if s = 4 then -(2 * w) + 1 else -w + 2
def gst (w h : Int) (o : Int → Int) (c s : Int) : Int := if o c = 0 then 0 else if gfar w h c s = -1 then 0 else if o (gfar w h c s) = o c then (if o (gbs w h c s) = o c then 0 else if o (gbs w h c (gnx s)) = o c then 0 else if o (gbs w h c s) = 0 then (if o (gbs w h c (gnx s)) = 0 then 1 else 2) else (if o (gbs w h c (gnx s)) = 0 then 2 else 0)) else 0
theorem gnx_b {s : Int} (s0 : 0 ≤ s) (s1 : s < 6) : 0 ≤ gnx s ∧ gnx s < 6 ∧ gnx s = (s + 1) % 6 := by unfold gnx; omega
theorem gst_b (w h : Int) (o : Int → Int) (c s : Int) : gst w h o c s = 0 ∨ gst w h o c s = 1 ∨ gst w h o c s = 2 := by
  unfold gst
  (repeat' split) <;> omega
section BRG
variable {w h : Int} {c s : Int}
theorem gfar_x (k : gOk w h) (c0 : 0 ≤ c) (c1 : c < w * h) (s0 : 0 ≤ s) (s1 : s < 6) :
    gfar w h c s = gCell w h (c % w + gdx s + gdx (gnx s)) (c / w + gdy s + gdy (gnx s)) ∧
    ((0 ≤ c % w + gdx s + gdx (gnx s) ∧ c % w + gdx s + gdx (gnx s) < w ∧ 0 ≤ c / w + gdy s + gdy (gnx s) ∧ c / w + gdy s + gdy (gnx s) < h) → gbs w h c s ≠ -1 ∧ gbs w h c (gnx s) ≠ -1) := by
  obtain ⟨x0, x1, y0, y1, _⟩ := gXY k c0 c1
  obtain ⟨n0, n1, _⟩ := gnx_b s0 s1
  have conv : (0 ≤ c % w + gdx s + gdx (gnx s) ∧ c % w + gdx s + gdx (gnx s) < w ∧ 0 ≤ c / w + gdy s + gdy (gnx s) ∧ c / w + gdy s + gdy (gnx s) < h) → (0 ≤ c % w + gdx s ∧ c % w + gdx s < w ∧ 0 ≤ c / w + gdy s ∧ c / w + gdy s < h) ∧ (0 ≤ c % w + gdx (gnx s) ∧ c % w + gdx (gnx s) < w ∧ 0 ≤ c / w + gdy (gnx s) ∧ c / w + gdy (gnx s) < h) := by
    have e : (gdx s = 1 ∧ gdy s = 0 ∧ gdx (gnx s) = 0 ∧ gdy (gnx s) = 1) ∨ (gdx s = 0 ∧ gdy s = 1 ∧ gdx (gnx s) = -1 ∧ gdy (gnx s) = 1) ∨ (gdx s = -1 ∧ gdy s = 1 ∧ gdx (gnx s) = -1 ∧ gdy (gnx s) = 0) ∨ (gdx s = -1 ∧ gdy s = 0 ∧ gdx (gnx s) = 0 ∧ gdy (gnx s) = -1) ∨ (gdx s = 0 ∧ gdy s = -1 ∧ gdx (gnx s) = 1 ∧ gdy (gnx s) = -1) ∨ (gdx s = 1 ∧ gdy s = -1 ∧ gdx (gnx s) = 1 ∧ gdy (gnx s) = 0) := by
      rcases g6 s0 s1 with rfl | rfl | rfl | rfl | rfl | rfl <;> decide
    omega
  have on : (0 ≤ c % w + gdx s + gdx (gnx s) ∧ c % w + gdx s + gdx (gnx s) < w ∧ 0 ≤ c / w + gdy s + gdy (gnx s) ∧ c / w + gdy s + gdy (gnx s) < h) → gbs w h c s ≠ -1 ∧ gbs w h c (gnx s) ≠ -1 := by
    intro z
    obtain ⟨a, b⟩ := conv z
    have a1 := (gC_on k a.1 a.2.1 a.2.2.1 a.2.2.2).2.1
    have b1 := (gC_on k b.1 b.2.1 b.2.2.1 b.2.2.2).2.1
    rw [gbs_on c0 c1 s0 s1, gbs_on c0 c1 n0 n1]
    omega
  refine ⟨?_, on⟩
  unfold gfar
  rcases gbs_range k c s with z | z
  · rw [z]
    have e : gbs w h (-1) (gnx s) = -1 := if_neg (by omega)
    rw [e, gC_off (fun y => (on y).1 z)]
  · obtain ⟨q1, q2, q3⟩ := gbs_xy k z.1
    rw [gbs_on z.1 z.2 n0 n1, q2, q3]
theorem gfar_v (k : gOk w h) (c0 : 0 ≤ c) (c1 : c < w * h) (s0 : 0 ≤ s) (s1 : s < 6) : gfar w h c s = -1 ∨ (0 ≤ gfar w h c s ∧ gfar w h c s < w * h ∧ gfar w h c s = c + gfo w s ∧ gbs w h c s ≠ -1 ∧ gbs w h c (gnx s) ≠ -1) := by
  obtain ⟨e, on⟩ := gfar_x k c0 c1 s0 s1
  obtain ⟨x0, x1, y0, y1, xy⟩ := gXY k c0 c1
  rw [e]
  rcases gC_cases k (c % w + gdx s + gdx (gnx s)) (c / w + gdy s + gdy (gnx s)) with z | ⟨z, q1, q2, q3, _, _⟩
  · exact Or.inl z.1
  · refine Or.inr ⟨q2, q3, ?_, (on z).1, (on z).2⟩
    rw [q1, Int.mul_add, Int.mul_add]
    rcases g6 s0 s1 with rfl | rfl | rfl | rfl | rfl | rfl
    · show w * (c / w) + w * 0 + w * 1 + (c % w + 1 + 0) = c + (w + 1); omega
    · show w * (c / w) + w * 1 + w * 1 + (c % w + 0 + -1) = c + (2 * w - 1); omega
    · show w * (c / w) + w * 1 + w * 0 + (c % w + -1 + -1) = c + (w - 2); omega
    · show w * (c / w) + w * 0 + w * -1 + (c % w + -1 + 0) = c + (-w - 1); omega
    · show w * (c / w) + w * -1 + w * -1 + (c % w + 0 + 1) = c + (-(2 * w) + 1); omega
    · show w * (c / w) + w * -1 + w * 0 + (c % w + 1 + 1) = c + (-w + 2); omega
theorem gfar_1 (k : gOk w h) (c0 : 0 ≤ c) (c1 : c < w * h) (s0 : 0 ≤ s) (s1 : s < 6) {t : Int} (t0 : 0 ≤ t) (t1 : t < 6) (e : gfar w h c s = gfar w h c t) (n : gfar w h c s ≠ -1) : s = t := by
  have a := gfar_v k c0 c1 s0 s1
  have b := gfar_v k c0 c1 t0 t1
  have k1 := k.1
  have e1 : gfo w s = gfo w t := by omega
  unfold gfo at e1
  omega
theorem gfar_up (k : gOk w h) (c0 : 0 ≤ c) (c1 : c < w * h) (s0 : 0 ≤ s) (s1 : s < 6) (n : gfar w h c s ≠ -1) : (c < gfar w h c s ↔ s < 3) := by
  have a := gfar_v k c0 c1 s0 s1
  have k1 := k.1
  have e1 : gfar w h c s = c + gfo w s := by omega
  rw [e1]
  unfold gfo
  omega
end BRG
/-- the empty cell of a broken bridge -/
def gemp (w h : Int) (o : Int → Int) (c s : Int) : Int := if o (gbs w h c s) = 0 then gbs w h c s else gbs w h c (gnx s)
def gbp (w h : Int) (o : Int → Int) (p t m : Int) : Prop := o (m / 3) = p + 1 ∧ gst w h o (m / 3) (m % 3) = t
def gSe (w h : Int) (o : Int → Int) (p N e : Int) : Prop := ∃ m : Int, 0 ≤ m ∧ m < N ∧ gbp w h o p 2 m ∧ e = gemp w h o (m / 3) (m % 3)
def gmin (S : Int → Prop) (v : Int) : Prop := (v = -1 ∧ ∀ e, ¬ S e) ∨ (S v ∧ ∀ e, S e → v ≤ e)
theorem gmin_u {S : Int → Prop} {a b : Int} (x : gmin S a) (y : gmin S b) : a = b := by
  rcases x with ⟨x1, x2⟩ | ⟨x1, x2⟩
  · rcases y with ⟨y1, y2⟩ | ⟨y1, y2⟩
    · rw [x1, y1]
    · exact absurd y1 (x2 b)
  · rcases y with ⟨y1, y2⟩ | ⟨y1, y2⟩
    · exact absurd x1 (y2 a)
    · have := x2 b y1
      have := y2 a x1
      omega
theorem gmin_c {S T : Int → Prop} {a : Int} (h : ∀ e, S e ↔ T e) (x : gmin S a) : gmin T a := by
  rcases x with ⟨x1, x2⟩ | ⟨x1, x2⟩
  · exact Or.inl ⟨x1, fun e z => x2 e ((h e).mpr z)⟩
  · exact Or.inr ⟨(h a).mp x1, fun e z => x2 e ((h e).mpr z)⟩
/-- one more -/
theorem gmin_add {S T : Int → Prop} {a e : Int} (h : ∀ x, T x ↔ S x ∨ x = e) (h0 : ∀ x, S x → 0 ≤ x) (x : gmin S a) : gmin T (if a = -1 then e else if e < a then e else a) := by
  rcases x with ⟨x1, x2⟩ | ⟨x1, x2⟩
  · rw [if_pos x1]
    exact Or.inr ⟨(h e).mpr (Or.inr rfl), fun y z => ((h y).mp z).elim (fun q => absurd q (x2 y)) (fun q => by omega)⟩
  · have := h0 a x1
    rw [if_neg (by omega)]
    by_cases l : e < a
    · rw [if_pos l]
      exact Or.inr ⟨(h e).mpr (Or.inr rfl), fun y z => ((h y).mp z).elim (fun q => by have := x2 y q; omega) (fun q => by omega)⟩
    · rw [if_neg l]
      exact Or.inr ⟨(h a).mpr (Or.inl x1), fun y z => ((h y).mp z).elim (fun q => x2 y q) (fun q => by omega)⟩
theorem gemp_nn {w h : Int} {o : Int → Int} (k : gOk w h) {c s : Int} (c0 : 0 ≤ c) (c1 : c < w * h) (s0 : 0 ≤ s) (s1 : s < 6) (z : gst w h o c s ≠ 0) : 0 ≤ gemp w h o c s ∧ gemp w h o c s < w * h := by
  have hf : gfar w h c s ≠ -1 := by
    intro e
    apply z
    unfold gst
    rw [if_pos e]
    split <;> rfl
  have a := gfar_v k c0 c1 s0 s1
  have b1 := gbs_range k c s
  have b2 := gbs_range k c (gnx s)
  unfold gemp
  split <;> omega
theorem gSe_nn {w h : Int} {o : Int → Int} (k : gOk w h) {p N : Int} (hN : N ≤ 3 * (w * h)) : ∀ x, gSe w h o p N x → 0 ≤ x := by
  rintro x ⟨m, m0, m1, ⟨_, b⟩, rfl⟩
  exact (gemp_nn k (by omega) (by omega) (by omega) (by omega) (by omega)).1
/-! the class -/
def sB : Nat → Nat → Prop := fun k _ => 179 ≤ k ∧ k ≤ 182
theorem sB_pond : ∀ k j, (k = 169 ∧ j < 2) ∨ 170 ≤ k ∧ k ≤ 174 → ¬ sB k j := by
  intro k j h1 h2
  unfold sB at h2
  omega
def sB1 : Nat → Nat → Prop := fun k _ => 180 ≤ k ∧ k ≤ 182
theorem sB1_pond : ∀ k j, (k = 169 ∧ j < 2) ∨ 170 ≤ k ∧ k ≤ 174 → ¬ sB1 k j := by
  intro k j h1 h2
  unfold sB1 at h2
  omega
theorem sB1_B : ∀ k j, sB1 k j → sB k j := by
  intro k j h
  unfold sB1 at h
  unfold sB
  omega
def gBI (M : ax_M) (w h : Int) (o : Int → Int) (N : Nat) : Prop := ∀ p : Int, (p = 0 ∨ p = 1) → mI M 180 p.toNat = gcn (gbp w h o p 1) N ∧ mI M 181 p.toNat = gcn (gbp w h o p 2) N ∧ gmin (gSe w h o p N) (mI M 182 p.toNat)
section CBR
variable {M : ax_M} {w h : Int} {o : Int → Int}
theorem C_next (M : ax_M) {s : Int} (s0 : 0 ≤ s) (s1 : s < 6) : fX1_nextSide M s = gnx s := by
  unfold fX1_nextSide gnx
  rw [wr_eq (x := s + 1) (by omega) (by omega)]
theorem C_farEnd (P : Pd M w h o) {c s : Int} (s0 : 0 ≤ s) (s1 : s < 6) : fX1_farEnd M c s = gfar w h c s := by
  unfold fX1_farEnd gfar
  rw [C_next M s0 s1, P_bs P.1, P_bs P.1]
theorem C_stateAt (P : Pd M w h o) {c s : Int} (s0 : 0 ≤ s) (s1 : s < 6) : fX1_stateAt M c s = gst w h o c s := by
  unfold fX1_stateAt gst
  simp only [C_farEnd P s0 s1, C_next M s0 s1, P_bs P.1, P_own P]
theorem gBI_note (P : Pd M w h o) {c s : Int} (c0 : 0 ≤ c) (c1 : c < w * h) (s0 : 0 ≤ s) (s1 : s < 3) {N : Nat} (hN : (N : Int) = 3 * c + s) (B : gBI M w h o N) : ∃ M', fX1_note M c s (gst w h o c s) = some M' ∧ gBI M' w h o (N + 1) ∧ Fr sB1 M M' := by
  have hK := P.n
  have ob := P.2.1.2 c
  have hN3 : (N : Int) / 3 = c := by omega
  have hNm : (N : Int) % 3 = s := by omega
  have hbp : ∀ p t, gbp w h o p t (N : Int) ↔ (o c = p + 1 ∧ gst w h o c s = t) := fun p t => by unfold gbp; rw [hN3, hNm]
  have bb : ∀ p t, 0 ≤ gcn (gbp w h o p t) N ∧ gcn (gbp w h o p t) N ≤ N := fun p t => gcn_b _ N
  have hSe : ∀ p, ¬ gbp w h o p 2 (N : Int) → ∀ e, gSe w h o p (N : Int) e ↔ gSe w h o p ((N + 1 : Nat) : Int) e := fun p hn e => by
    constructor
    · rintro ⟨m, m0, m1, b, q⟩
      exact ⟨m, m0, by omega, b, q⟩
    · rintro ⟨m, m0, m1, b, q⟩
      by_cases z : m = (N : Int)
      · exact absurd (z ▸ b) hn
      · exact ⟨m, m0, by omega, b, q⟩
  have hSt : ∀ p, gbp w h o p 2 (N : Int) → ∀ e, gSe w h o p ((N + 1 : Nat) : Int) e ↔ gSe w h o p (N : Int) e ∨ e = gemp w h o c s := fun p hn e => by
    constructor
    · rintro ⟨m, m0, m1, b, q⟩
      by_cases z : m = (N : Int)
      · rw [z, hN3, hNm] at q; exact Or.inr q
      · exact Or.inl ⟨m, m0, by omega, b, q⟩
    · rintro (⟨m, m0, m1, b, q⟩ | q)
      · exact ⟨m, m0, by omega, b, q⟩
      · exact ⟨(N : Int), by omega, by omega, hn, by rw [hN3, hNm]; exact q⟩
  -- what a player has who isn't touched
  have keep : ∀ (M' : ax_M) (p : Int), (p = 0 ∨ p = 1) → (∀ t, t = 1 ∨ t = 2 → ¬ gbp w h o p t (N : Int)) → mI M' 180 p.toNat = mI M 180 p.toNat → mI M' 181 p.toNat = mI M 181 p.toNat → mI M' 182 p.toNat = mI M 182 p.toNat → mI M' 180 p.toNat = gcn (gbp w h o p 1) (N + 1) ∧ mI M' 181 p.toNat = gcn (gbp w h o p 2) (N + 1) ∧ gmin (gSe w h o p ((N + 1 : Nat) : Int)) (mI M' 182 p.toNat) := fun M' p hp hn e1 e2 e3 => by
    obtain ⟨b1, b2, b3⟩ := B p hp
    rw [gcn_n (hn 1 (Or.inl rfl)), gcn_n (hn 2 (Or.inr rfl)), e1, e2, e3]
    exact ⟨b1, b2, gmin_c (hSe p (hn 2 (Or.inr rfl))) b3⟩
  unfold fX1_note
  rw [P_own P]
  rcases gst_b w h o c s with g | g | g
  · rw [g, if_pos rfl]
    refine ⟨M, rfl, fun p hp => keep M p hp (fun t ht z => ?_) rfl rfl rfl, Fr.refl _ _⟩
    have := ((hbp p t).mp z).2
    omega
  · have oc : o c ≠ 0 := fun z => by unfold gst at g; rw [if_pos z] at g; omega
    rw [g, if_neg (by omega), wr_eq (x := o c - 1) (by omega) (by omega), if_neg (by omega), if_pos (by omega), if_pos rfl]
    obtain ⟨b1, b2, b3⟩ := B (o c - 1) (by omega)
    have h1 := (hbp (o c - 1) 1).mpr ⟨by omega, g⟩
    have h2 : ¬ gbp w h o (o c - 1) 2 (N : Int) := fun z => by have := ((hbp (o c - 1) 2).mp z).2; omega
    have hb := bb (o c - 1) 1
    rw [b1, wr_eq (by omega) (by omega)]
    refine ⟨_, rfl, fun p hp => ?_, (Fr.refl _ _).up ⟨by omega, by omega⟩⟩
    by_cases e : p = o c - 1
    · rw [e, mI_Us, mI_Un (by omega), mI_Un (by omega), gcn_s h1, gcn_n h2]
      exact ⟨rfl, b2, gmin_c (hSe _ h2) b3⟩
    · refine keep _ p hp (fun t ht z => ?_) (mI_Un (by omega)) (mI_Un (by omega)) (mI_Un (by omega))
      have := ((hbp p t).mp z).1
      omega
  · have oc : o c ≠ 0 := fun z => by unfold gst at g; rw [if_pos z] at g; omega
    rw [g, if_neg (by omega), wr_eq (x := o c - 1) (by omega) (by omega), if_neg (by omega), if_pos (by omega), if_neg (by omega)]
    obtain ⟨b1, b2, b3⟩ := B (o c - 1) (by omega)
    have h1 : ¬ gbp w h o (o c - 1) 1 (N : Int) := fun z => by have := ((hbp (o c - 1) 1).mp z).2; omega
    have h2 := (hbp (o c - 1) 2).mpr ⟨by omega, g⟩
    have hb := bb (o c - 1) 2
    rw [b2, wr_eq (x := gcn (gbp w h o (o c - 1) 2) N + 1) (by omega) (by omega)]
    generalize eM : mUI M 181 (o c - 1).toNat (gcn (gbp w h o (o c - 1) 2) N + 1) = M2
    have F2 : Fr sB1 M M2 := by rw [← eM]; exact (Fr.refl _ _).up ⟨by omega, by omega⟩
    have P2 := P.fr F2 sB1_pond
    have r180 : ∀ j, mI M2 180 j = mI M 180 j := fun j => by rw [← eM, mI_Un (by omega)]
    have r182 : ∀ j, mI M2 182 j = mI M 182 j := fun j => by rw [← eM, mI_Un (by omega)]
    have r181 : mI M2 181 (o c - 1).toNat = gcn (gbp w h o (o c - 1) 2) N + 1 := by rw [← eM, mI_Us]
    have r181' : ∀ p : Int, (p = 0 ∨ p = 1) → p ≠ o c - 1 → mI M2 181 p.toNat = mI M 181 p.toNat := fun p hp hne => by rw [← eM, mI_Un (by omega)]
    rw [P_own P2, P_bs P2.1, C_next M2 s0 (by omega), P_bs P2.1]
    have hgm := gmin_add (hSt _ h2) (gSe_nn P.k (by omega)) b3
    have fin : ∀ v, v = (if mI M 182 (o c - 1).toNat = -1 then gemp w h o c s else if gemp w h o c s < mI M 182 (o c - 1).toNat then gemp w h o c s else mI M 182 (o c - 1).toNat) → gBI (mUI M2 182 (o c - 1).toNat v) w h o (N + 1) := by
      intro v hv p hp
      by_cases e : p = o c - 1
      · rw [e, mI_Us, mI_Un (by omega), mI_Un (by omega), r180, r181, gcn_n h1, gcn_s h2, hv]
        exact ⟨b1, rfl, hgm⟩
      · refine keep _ p hp (fun t ht z => ?_) ?_ ?_ ?_
        · have := ((hbp p t).mp z).1
          omega
        · rw [mI_Un (by omega), r180]
        · rw [mI_Un (by omega), r181' p hp e]
        · rw [mI_Un (by omega), r182]
    have fin2 : mI M 182 (o c - 1).toNat = (if mI M 182 (o c - 1).toNat = -1 then gemp w h o c s else if gemp w h o c s < mI M 182 (o c - 1).toNat then gemp w h o c s else mI M 182 (o c - 1).toNat) → gBI M2 w h o (N + 1) := by
      intro hv p hp
      by_cases e : p = o c - 1
      · rw [e, r180, r181, r182, gcn_n h1, gcn_s h2]
        refine ⟨b1, rfl, ?_⟩
        rw [← hv] at hgm
        exact hgm
      · refine keep _ p hp (fun t ht z => ?_) (r180 _) (r181' p hp e) (r182 _)
        have := ((hbp p t).mp z).1
        omega
    have up : ∀ v, Fr sB1 M (mUI M2 182 (o c - 1).toNat v) := fun v => F2.up ⟨by omega, by omega⟩
    rw [r182]
    by_cases e0 : o (gbs w h c s) = 0
    · have ge : gemp w h o c s = gbs w h c s := by unfold gemp; rw [if_pos e0]
      rw [if_pos e0]
      by_cases q1 : mI M 182 (o c - 1).toNat = -1
      · rw [if_pos q1]
        exact ⟨_, rfl, fin _ (by rw [if_pos q1, ge]), up _⟩
      · rw [if_neg q1]
        by_cases q2 : gbs w h c s < mI M 182 (o c - 1).toNat
        · rw [if_pos q2]
          exact ⟨_, rfl, fin _ (by rw [if_neg q1, ge, if_pos q2]), up _⟩
        · rw [if_neg q2]
          exact ⟨_, rfl, fin2 (by rw [if_neg q1, ge, if_neg q2]), F2⟩
    · have ge : gemp w h o c s = gbs w h c (gnx s) := by unfold gemp; rw [if_neg e0]
      rw [if_neg e0]
      by_cases q1 : mI M 182 (o c - 1).toNat = -1
      · rw [if_pos q1]
        exact ⟨_, rfl, fin _ (by rw [if_pos q1, ge]), up _⟩
      · rw [if_neg q1]
        by_cases q2 : gbs w h c (gnx s) < mI M 182 (o c - 1).toNat
        · rw [if_pos q2]
          exact ⟨_, rfl, fin _ (by rw [if_neg q1, ge, if_pos q2]), up _⟩
        · rw [if_neg q2]
          exact ⟨_, rfl, fin2 (by rw [if_neg q1, ge, if_neg q2]), F2⟩
/-- the bridges are remembered as they are -/
def gBr (M : ax_M) (w h : Int) (o : Int → Int) : Prop := mI M 179 4 ≤ mI M 169 9 ∧ (mI M 179 4 = mI M 169 9 → gBI M w h o (3 * (w * h)).toNat)
theorem C_bridges (P : Pd M w h o) (B : gBr M w h o) : ∃ M', fX1_look M = some M' ∧ gBr M' w h o ∧ gBI M' w h o (3 * (w * h)).toNat ∧ Fr sB M M' := by
  have hN := P.n
  have hch : fX8_changes M = mI M 169 9 := rfl
  unfold fX1_look
  rw [hch]
  by_cases hf : mI M 179 4 = mI M 169 9
  · rw [if_pos hf]
    exact ⟨M, rfl, B, B.2 hf, Fr.refl _ _⟩
  · rw [if_neg hf]
    have F0 : Fr sB M (mFi (mFi (mFi (mUI M 179 4 (mI M 169 9)) 180 2 0) 181 2 0) 182 2 (-1)) := ((((Fr.refl sB M).up ⟨by omega, by omega⟩).fi (fun _ => ⟨by omega, by omega⟩)).fi (fun _ => ⟨by omega, by omega⟩)).fi (fun _ => ⟨by omega, by omega⟩)
    generalize eM : mFi (mFi (mFi (mUI M 179 4 (mI M 169 9)) 180 2 0) 181 2 0) 182 2 (-1) = M0 at F0 ⊢
    have B0 : gBI M0 w h o 0 := by
      intro p hp
      refine ⟨?_, ?_, Or.inl ⟨?_, fun e ⟨m, m0, m1, _⟩ => by omega⟩⟩
      · rw [← eM, mI_F, if_neg (by omega), mI_F, if_neg (by omega), mI_F, if_pos (by omega)]; rfl
      · rw [← eM, mI_F, if_neg (by omega), mI_F, if_pos (by omega)]; rfl
      · rw [← eM, mI_F, if_pos (by omega)]
    have s0 : mI M0 179 4 = mI M 169 9 := by rw [← eM, mI_F, if_neg (by omega), mI_F, if_neg (by omega), mI_F, if_neg (by omega), mI_Us]
    have key : ∃ r, lp (fun q => fX1_look_b52 q.2 q.1) lpN (0, M0) = some r ∧ gBI r w h o (3 * (w * h)).toNat ∧ Fr sB M r ∧ mI r 179 4 = mI M 169 9 := by
      refine lpn (w * h).toNat (by omega) (fun i q => q.1 = (i : Int) ∧ gBI q.2 w h o (3 * i) ∧ Fr sB M q.2 ∧ mI q.2 179 4 = mI M 169 9) _ _ ⟨rfl, B0, F0, s0⟩ ?_ ?_
      · rintro i ⟨x, M1⟩ hi ⟨hx, b1, f1, t1⟩
        right
        have hx : x = (i : Int) := hx
        subst hx
        have b1 : gBI M1 w h o (3 * i) := b1
        have f1 : Fr sB M M1 := f1
        have t1 : mI M1 179 4 = mI M 169 9 := t1
        have P1 := P.fr f1 sB_pond
        obtain ⟨A, a1, a2, a3⟩ := gBI_note P1 (c := (i : Int)) (s := 0) (by omega) (by omega) (by omega) (by omega) (N := 3 * i) (by omega) b1
        have P2 := P1.fr a3 sB1_pond
        obtain ⟨A2, c1, c2, c3⟩ := gBI_note P2 (c := (i : Int)) (s := 1) (by omega) (by omega) (by omega) (by omega) (N := 3 * i + 1) (by omega) a2
        have P3 := P2.fr c3 sB1_pond
        obtain ⟨A3, d1, d2, d3⟩ := gBI_note P3 (c := (i : Int)) (s := 2) (by omega) (by omega) (by omega) (by omega) (N := 3 * i + 1 + 1) (by omega) c2
        have e0 : (fun q : Int × ax_M => fX1_look_b65 q.2 (i : Int) q.1) (0, M1) = some (.inl (1, A)) := by
          show fX1_look_b65 M1 (i : Int) 0 = _
          unfold fX1_look_b65
          rw [if_pos (by omega), C_stateAt P1 (by omega) (by omega), a1]
          rfl
        have e1 : (fun q : Int × ax_M => fX1_look_b65 q.2 (i : Int) q.1) (1, A) = some (.inl (2, A2)) := by
          show fX1_look_b65 A (i : Int) 1 = _
          unfold fX1_look_b65
          rw [if_pos (by omega), C_stateAt P2 (by omega) (by omega), c1]
          rfl
        have e2 : (fun q : Int × ax_M => fX1_look_b65 q.2 (i : Int) q.1) (2, A2) = some (.inl (3, A3)) := by
          show fX1_look_b65 A2 (i : Int) 2 = _
          unfold fX1_look_b65
          rw [if_pos (by omega), C_stateAt P3 (by omega) (by omega), d1]
          rfl
        have e3 : (fun q : Int × ax_M => fX1_look_b65 q.2 (i : Int) q.1) (3, A3) = some (.inr A3) := by
          show fX1_look_b65 A3 (i : Int) 3 = _
          unfold fX1_look_b65
          rw [if_neg (by omega)]
        have eL : lp (fun q : Int × ax_M => fX1_look_b65 q.2 (i : Int) q.1) lpN (0, M1) = some A3 := by
          rw [show lpN = 999996 + 1 + 1 + 1 + 1 from rfl, lp_s e0, lp_s e1, lp_s e2, lp_r e3]
        refine ⟨((i : Int) + 1, A3), ?_, rfl, ?_, ((f1.trans (a3.mono sB1_B)).trans (c3.mono sB1_B)).trans (d3.mono sB1_B), ?_⟩
        · show fX1_look_b52 M1 (i : Int) = _
          unfold fX1_look_b52
          rw [P_cells P1.1, if_pos (by omega), eL]
          rfl
        · exact d2
        · show mI A3 179 4 = _
          rw [d3.2 179 4 (by unfold sB1; omega), c3.2 179 4 (by unfold sB1; omega), a3.2 179 4 (by unfold sB1; omega)]
          exact t1
      · rintro ⟨x, M1⟩ ⟨hx, b1, f1, t1⟩
        have hx : x = ((w * h).toNat : Int) := hx
        subst hx
        refine ⟨M1, ?_, ?_, f1, t1⟩
        · show fX1_look_b52 M1 ((w * h).toNat : Int) = _
          unfold fX1_look_b52
          rw [P_cells (P.fr (show Fr sB M M1 from f1) sB_pond).1, if_neg (by omega)]
        · rw [show (3 * (w * h)).toNat = 3 * (w * h).toNat by omega]; exact b1
    obtain ⟨r, e, k1, k2, k3⟩ := key
    have c9 : mI r 169 9 = mI M 169 9 := k2.2 169 9 (by unfold sB; omega)
    refine ⟨r, ?_, ⟨by rw [k3, c9]; exact Int.le_refl _, fun _ => k1⟩, k1, k2⟩
    rw [e]
    rfl
end CBR
