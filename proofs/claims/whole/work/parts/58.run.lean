/-! part C: the code of a plan, run over the stack -/
def gkm (k : Nat) : Int := ([0, 1, 2, 3, 4, 5, 6, 7, 8, 9, 10, 11, 12, 13, 14, 15, 16, 17, 18, 19, 20, 21, 22, 49, 50, 51, 52, 53, 54, 40, 41, 42, 43, 44, 45, 46, 47, 48, 31, 33, 32, 60] : List Int).getD (k - 10) (-9)
def gEx (op : Int → Nat) (od S L R : Int → Int) (lo : Int) : Nat → Int → Int → Int → Prop
  | 0, _, _, _ => False
  | f + 1, a, b, n => lo ≤ n ∧ 0 ≤ a ∧
    ((b = a + 1 ∧ (op a = 48 ∨ op a = 22 ∨ op a = 25 ∨ op a = 23 ∨ op a = 24 ∨ op a = 26 ∨ op a = 27) ∧ S n = gkm (op a) ∧ L n = od a) ∨
     (∃ l, gEx op od S L R lo f a (b - 1) l ∧ l < n ∧ (op (b - 1) = 51 ∨ op (b - 1) = 28) ∧ S n = gkm (op (b - 1)) ∧ L n = l) ∨
     (∃ m l r, gEx op od S L R lo f a m l ∧ gEx op od S L R lo f m (b - 1) r ∧ l < n ∧ r < n ∧ ((29 ≤ op (b - 1) ∧ op (b - 1) ≤ 32) ∨ (39 ≤ op (b - 1) ∧ op (b - 1) ≤ 47)) ∧ S n = gkm (op (b - 1)) ∧ L n = l ∧ R n = r))
def sK : Nat → Nat → Prop := fun k j => k = 193 ∨ (k = 192 ∧ j = 4)
theorem sK_pond : ∀ k j, (k = 169 ∧ j < 2) ∨ 170 ≤ k ∧ k ≤ 174 → ¬ sK k j := by
  intro k j h1 h2
  unfold sK at h2
  omega
section RUN
variable {M : ax_M} {w h : Int} {o : Int → Int} {q : Nat}
theorem C_push {k : Int} (v : Int) (hk : mI M 192 4 = k) (k0 : 0 ≤ k) (k1 : k < 400) : fX2_push M v = some (mUI (mUI M 193 k.toNat v) 192 4 (k + 1)) := by
  have e : mI (mUI M 193 k.toNat v) 192 4 = k := by rw [mI_Un (by omega)]; exact hk
  unfold fX2_push
  rw [hk, if_neg (by omega), if_pos k1, e, wr_eq (by omega) (by omega)]
theorem C_pop {k : Int} (hk : mI M 192 4 = k + 1) (k0 : 0 ≤ k) (k1 : k < 400) : fX2_pop M = some (mI M 193 k.toNat, mUI M 192 4 k) := by
  have e : mI (mUI M 192 4 k) 192 4 = k := mI_Us _ _ _ _
  have e2 : mI (mUI M 192 4 k) 193 k.toNat = mI M 193 k.toNat := mI_Un (by omega)
  unfold fX2_pop
  rw [hk, if_pos (by omega), if_neg (by omega), show k + 1 - 1 = k by omega, e, if_pos ⟨k0, k1⟩, e2]
theorem C_b8_48 {a to : Int} (e : fX7_opAt M q a = 48) (ha : a < to) : fX2_reckon_b8 M q to a = bd1 (fX2_push M (fX7_operandAt M q a)) fun M' => some (.inl (a + 1, M')) := by
  unfold fX2_reckon_b8
  rw [if_pos ha, e, if_pos (by decide)]
theorem C_b8_22 {a to : Int} (e : fX7_opAt M q a = 22) (ha : a < to) : fX2_reckon_b8 M q to a = bd1 (fX2_push M (fX8_stones M)) fun M' => some (.inl (a + 1, M')) := by
  unfold fX2_reckon_b8
  rw [if_pos ha, e, if_neg (by decide), if_pos (by decide)]
theorem C_b8_25 {a to : Int} (e : fX7_opAt M q a = 25) (ha : a < to) : fX2_reckon_b8 M q to a = bd1 (fX2_push M (fX8_freeCells M)) fun M' => some (.inl (a + 1, M')) := by
  unfold fX2_reckon_b8
  rw [if_pos ha, e, if_neg (by decide), if_neg (by decide), if_pos (by decide)]
theorem C_b8_23 {a to : Int} (e : fX7_opAt M q a = 23) (ha : a < to) : fX2_reckon_b8 M q to a = bd1 (fX2_push M (fX8_stonesOf M (fX7_operandAt M q a))) fun M' => some (.inl (a + 1, M')) := by
  unfold fX2_reckon_b8
  rw [if_pos ha, e, if_neg (by decide), if_neg (by decide), if_neg (by decide), if_pos (by decide)]
theorem C_b8_24 {a to : Int} (e : fX7_opAt M q a = 24) (ha : a < to) : fX2_reckon_b8 M q to a = bd1 (fX2_push M (fX1_whole M (fX7_operandAt M q a))) fun M' => some (.inl (a + 1, M')) := by
  unfold fX2_reckon_b8
  rw [if_pos ha, e, if_neg (by decide), if_neg (by decide), if_neg (by decide), if_neg (by decide), if_pos (by decide)]
theorem C_b8_26 {a to : Int} (e : fX7_opAt M q a = 26) (ha : a < to) : fX2_reckon_b8 M q to a = bd1 (fX2_push M (fX11_needed M (fX7_operandAt M q a))) fun M' => some (.inl (a + 1, M')) := by
  unfold fX2_reckon_b8
  rw [if_pos ha, e, if_neg (by decide), if_neg (by decide), if_neg (by decide), if_neg (by decide), if_neg (by decide), if_pos (by decide)]
theorem C_b8_27 {a to : Int} (e : fX7_opAt M q a = 27) (ha : a < to) : fX2_reckon_b8 M q to a = bd1 (fX2_push M (if fX11_needed M (fX7_operandAt M q a) = 0 then 1 else 0)) fun M' => some (.inl (a + 1, M')) := by
  unfold fX2_reckon_b8
  rw [if_pos ha, e, if_neg (by decide), if_neg (by decide), if_neg (by decide), if_neg (by decide), if_neg (by decide), if_neg (by decide), if_pos (by decide)]
  by_cases z : fX11_needed M (fX7_operandAt M q a) = 0
  · rw [if_pos z, if_pos z]
  · rw [if_neg z, if_neg z]
theorem C_b8_51 {a to : Int} (e : fX7_opAt M q a = 51) (ha : a < to) : fX2_reckon_b8 M q to a = bd2 (fX2_pop M) fun v M1 => bd1 (fX2_push M1 (wr (-v))) fun M' => some (.inl (a + 1, M')) := by
  unfold fX2_reckon_b8
  rw [if_pos ha, e, if_neg (by decide), if_neg (by decide), if_neg (by decide), if_neg (by decide), if_neg (by decide), if_neg (by decide), if_neg (by decide), if_pos (by decide)]
theorem C_b8_28 {a to : Int} (e : fX7_opAt M q a = 28) (ha : a < to) : fX2_reckon_b8 M q to a = bd2 (fX2_pop M) fun v M1 => bd1 (fX2_push M1 (wr (1 - v))) fun M' => some (.inl (a + 1, M')) := by
  unfold fX2_reckon_b8
  rw [if_pos ha, e, if_neg (by decide), if_neg (by decide), if_neg (by decide), if_neg (by decide), if_neg (by decide), if_neg (by decide), if_neg (by decide), if_neg (by decide), if_pos (by decide)]
theorem C_b8_2 {a to : Int} {K : Nat} (e : fX7_opAt M q a = K) (hK : (29 ≤ K ∧ K ≤ 32) ∨ (39 ≤ K ∧ K ≤ 47)) (ha : a < to) : fX2_reckon_b8 M q to a = bd2 (fX2_pop M) fun v43 M42 => (bd2 (fX2_pop M42) fun v46 M45 => (bd1 (fX2_push M45 (fX2_joined M45 K v46 v43)) fun M48 => (some (.inl ((a + 1), M48))))) := by
  unfold fX2_reckon_b8
  rw [if_pos ha, e]
  rcases (show K = 29 ∨ K = 30 ∨ K = 31 ∨ K = 32 ∨ K = 39 ∨ K = 40 ∨ K = 41 ∨ K = 42 ∨ K = 43 ∨ K = 44 ∨ K = 45 ∨ K = 46 ∨ K = 47 by omega) with rfl | rfl | rfl | rfl | rfl | rfl | rfl | rfl | rfl | rfl | rfl | rfl | rfl <;> rw [if_neg (by decide), if_neg (by decide), if_neg (by decide), if_neg (by decide), if_neg (by decide), if_neg (by decide), if_neg (by decide), if_neg (by decide), if_neg (by decide)]
/-- what the stack's operation answers, as the node's sort has it -/
theorem C_joined {K : Nat} (hK : (29 ≤ K ∧ K ≤ 32) ∨ (39 ≤ K ∧ K ≤ 47)) (V : Int → Int) (l r : Int) : fX2_joined M K (V l) (V r) = gRk w h o (gkm K) l r V := by
  rcases (show K = 39 ∨ K = 40 ∨ K = 41 ∨ K = 42 ∨ K = 31 ∨ K = 32 ∨ K = 43 ∨ K = 44 ∨ K = 45 ∨ K = 46 ∨ K = 47 ∨ K = 29 ∨ K = 30 by omega) with rfl | rfl | rfl | rfl | rfl | rfl | rfl | rfl | rfl | rfl | rfl | rfl | rfl
  · rw [show gkm 39 = 40 from rfl, gRk_40]; unfold fX2_joined; rw [if_pos (by decide)]
  · rw [show gkm 40 = 41 from rfl, gRk_41]; unfold fX2_joined; rw [if_neg (by decide), if_pos (by decide)]
  · rw [show gkm 41 = 42 from rfl, gRk_42]; unfold fX2_joined; rw [if_neg (by decide), if_neg (by decide), if_pos (by decide)]
  · rw [show gkm 42 = 43 from rfl, gRk_43]; unfold fX2_joined; rw [if_neg (by decide), if_neg (by decide), if_neg (by decide), if_pos (by decide)]
  · rw [show gkm 31 = 21 from rfl, gRk_21]; unfold fX2_joined; rw [if_neg (by decide), if_neg (by decide), if_neg (by decide), if_neg (by decide), if_pos (by decide)]; rfl
  · rw [show gkm 32 = 22 from rfl, gRk_22]; unfold fX2_joined; rw [if_neg (by decide), if_neg (by decide), if_neg (by decide), if_neg (by decide), if_neg (by decide), if_pos (by decide)]; rfl
  · rw [show gkm 43 = 44 from rfl, gRk_44]; unfold fX2_joined; rw [if_neg (by decide), if_neg (by decide), if_neg (by decide), if_neg (by decide), if_neg (by decide), if_neg (by decide), if_pos (by decide)]
  · rw [show gkm 44 = 45 from rfl, gRk_45]; unfold fX2_joined; rw [if_neg (by decide), if_neg (by decide), if_neg (by decide), if_neg (by decide), if_neg (by decide), if_neg (by decide), if_neg (by decide), if_pos (by decide)]
  · rw [show gkm 45 = 46 from rfl, gRk_46]; unfold fX2_joined; rw [if_neg (by decide), if_neg (by decide), if_neg (by decide), if_neg (by decide), if_neg (by decide), if_neg (by decide), if_neg (by decide), if_neg (by decide), if_pos (by decide)]
  · rw [show gkm 46 = 47 from rfl, gRk_47]; unfold fX2_joined; rw [if_neg (by decide), if_neg (by decide), if_neg (by decide), if_neg (by decide), if_neg (by decide), if_neg (by decide), if_neg (by decide), if_neg (by decide), if_neg (by decide), if_pos (by decide)]
  · rw [show gkm 47 = 48 from rfl, gRk_48]; unfold fX2_joined; rw [if_neg (by decide), if_neg (by decide), if_neg (by decide), if_neg (by decide), if_neg (by decide), if_neg (by decide), if_neg (by decide), if_neg (by decide), if_neg (by decide), if_neg (by decide), if_pos (by decide)]
  · rw [show gkm 29 = 19 from rfl, gRk_19]; unfold fX2_joined; rw [if_neg (by decide), if_neg (by decide), if_neg (by decide), if_neg (by decide), if_neg (by decide), if_neg (by decide), if_neg (by decide), if_neg (by decide), if_neg (by decide), if_neg (by decide), if_neg (by decide), if_pos (by decide)]
  · rw [show gkm 30 = 20 from rfl, gRk_20]; unfold fX2_joined; rw [if_neg (by decide), if_neg (by decide), if_neg (by decide), if_neg (by decide), if_neg (by decide), if_neg (by decide), if_neg (by decide), if_neg (by decide), if_neg (by decide), if_neg (by decide), if_neg (by decide), if_neg (by decide), if_pos (by decide)]
/-- what the class has at hand while it reckons -/
def gCc (M : ax_M) (w h : Int) (o : Int → Int) : Prop := Pd M w h o ∧ gAll M w h o ∧ gBI M w h o (3 * (w * h)).toNat
theorem gCc.fr {M' : ax_M} (C : gCc M w h o) (f : Fr sK M M') : gCc M' w h o := ⟨C.1.fr f sK_pond, C.2.1.fr f (fun k j z => by unfold sK; omega), C.2.2.fr f (fun k j z => by unfold sK; omega)⟩
theorem opAt_fr {M' : ax_M} (hq : q = 157 ∨ q = 194) (f : Fr sK M M') (a : Int) : fX7_opAt M' q a = fX7_opAt M q a ∧ fX7_operandAt M' q a = fX7_operandAt M q a := by
  have e1 : mI M' q 2 = mI M q 2 := f.2 _ _ (by unfold sK; omega)
  have e2 : mR M' = mR M := by show M'.2.1 = M.2.1; rw [f.1]
  have e3 : mI M' (q + 2) a.toNat = mI M (q + 2) a.toNat := f.2 _ _ (by unfold sK; omega)
  unfold fX7_opAt fX7_operandAt
  rw [e1, e2, e3]
  exact ⟨rfl, rfl⟩
/-- what a leaf is worth -/
theorem C_leaf (C : gCc M w h o) (V : Int → Int) {a to d : Int} {K : Nat} (e : fX7_opAt M q a = K) (ha : a < to) (hK : K = 48 ∨ K = 22 ∨ K = 25 ∨ K = 23 ∨ K = 24 ∨ K = 26 ∨ K = 27) (hp : K = 23 ∨ K = 24 ∨ K = 26 ∨ K = 27 → fX7_operandAt M q a = 0 ∨ fX7_operandAt M q a = 1) : fX2_reckon_b8 M q to a = bd1 (fX2_push M (gRk w h o (gkm K) (fX7_operandAt M q a) d V)) fun M' => some (.inl (a + 1, M')) := by
  have wh : ∀ p : Int, (p = 0 ∨ p = 1) → fX1_whole M p = gcn (gbp w h o p 1) (3 * (w * h)).toNat := fun p hp => by
    unfold fX1_whole
    rw [if_neg (by omega), if_pos (by omega)]
    exact (C.2.2 p hp).1
  rcases hK with rfl | rfl | rfl | rfl | rfl | rfl | rfl
  · rw [C_b8_48 e ha, show gkm 48 = 31 from rfl, gRk_31]
  · rw [C_b8_22 e ha, show gkm 22 = 12 from rfl, gRk_12, C_stones C.1]
  · rw [C_b8_25 e ha, show gkm 25 = 15 from rfl, gRk_15, C_free C.1]
  · rw [C_b8_23 e ha, show gkm 23 = 13 from rfl, gRk_13, C_stonesOf C.1 (hp (by omega))]
  · rw [C_b8_24 e ha, show gkm 24 = 14 from rfl, gRk_14, wh _ (hp (by omega))]
  · rw [C_b8_26 e ha, show gkm 26 = 16 from rfl, gRk_16, C_needed C.2.1 (hp (by omega))]
  · have hp := hp (by omega)
    have g := gneed_0 C.1 (p := fX7_operandAt M q a) (by omega)
    rw [C_b8_27 e ha, show gkm 27 = 17 from rfl, gRk_17, C_needed C.2.1 hp]
    by_cases z : gneed w h o (fX7_operandAt M q a) = 0
    · rw [if_pos z, gat_t (g.mp z)]
    · rw [if_neg z, gat_f (fun y => z (g.mpr y))]
theorem C_run {M0 : ax_M} {S L R : Int → Int} {lo hi to : Int} (hq : q = 157 ∨ q = 194) (C : gCc M0 w h o) (lo0 : 0 ≤ lo) (nd : ∀ n, lo ≤ n → n < hi → gNd S L R lo n) : ∀ (f : Nat) (a b n k : Int) (M : ax_M), Fr sK M0 M → gEx (fX7_opAt M0 q) (fX7_operandAt M0 q) S L R lo f a b n → n < hi → mI M 192 4 = k → 0 ≤ k → k ≤ a → b ≤ to → b ≤ 400 →
    ∃ M', (∀ N : Nat, lp (fun s : Int × ax_M => fX2_reckon_b8 s.2 q to s.1) (N + (b - a).toNat) (a, M) = lp (fun s : Int × ax_M => fX2_reckon_b8 s.2 q to s.1) N (b, M')) ∧ Fr sK M0 M' ∧ mI M' 192 4 = k + 1 ∧ mI M' 193 k.toNat = gE w h o S L R n ∧ (∀ j : Int, 0 ≤ j → j < k → mI M' 193 j.toNat = mI M 193 j.toNat) ∧ a < b
  | 0, _, _, _, _, _, _, H, _, _, _, _, _, _ => H.elim
  | f + 1, a, b, n, k, M, F, H, hn, hk, k0, ka, bt, b4 => by
    obtain ⟨n0, a0, H⟩ := H
    have kn := nd n n0 hn
    have ge := gE_eq (w := w) (h := h) (o := o) lo0 nd n0 hn
    rcases H with ⟨rfl, hop, hS, hL⟩ | ⟨l, H1, ln, hop, hS, hL⟩ | ⟨m, l, r, H1, H2, ln, rn, hop, hS, hL, hR⟩
    · obtain ⟨o1, o2⟩ := opAt_fr hq F a
      have CM := C.fr F
      have hp : fX7_opAt M0 q a = 23 ∨ fX7_opAt M0 q a = 24 ∨ fX7_opAt M0 q a = 26 ∨ fX7_opAt M0 q a = 27 → fX7_operandAt M q a = 0 ∨ fX7_operandAt M q a = 1 := by
        intro z
        rw [o2, ← hL]
        have : S n = 13 ∨ S n = 14 ∨ S n = 16 ∨ S n = 17 := by
          rw [hS]
          rcases z with z | z | z | z <;> rw [z]
          · exact Or.inl rfl
          · exact Or.inr (Or.inl rfl)
          · exact Or.inr (Or.inr (Or.inl rfl))
          · exact Or.inr (Or.inr (Or.inr rfl))
        unfold gNd at kn
        omega
      have st := C_leaf (d := R n) CM (gE w h o S L R) (K := fX7_opAt M0 q a) (to := to) o1 (by omega) hop hp
      rw [o2, ← hL, ← hS, ← ge, C_push _ hk k0 (by omega), bd1_s] at st
      refine ⟨mUI (mUI M 193 k.toNat (gE w h o S L R n)) 192 4 (k + 1), fun N => ?_, (F.up (Or.inl rfl)).up (Or.inr ⟨rfl, rfl⟩), mI_Us _ _ _ _, ?_, fun j j0 j1 => ?_, by omega⟩
      · rw [show (a + 1 - a).toNat = 1 by omega]
        exact lp_s st
      · rw [mI_Un (by omega), mI_Us]
      · rw [mI_Un (by omega), mI_Un (by omega)]
    · obtain ⟨M1, r1, F1, h1, v1, s1, ab⟩ := C_run (to := to) hq C lo0 nd f a (b - 1) l k M F H1 (by omega) hk k0 ka (by omega) (by omega)
      obtain ⟨o1, o2⟩ := opAt_fr hq F1 (b - 1)
      have st : fX2_reckon_b8 M1 q to (b - 1) = some (.inl (b, mUI (mUI (mUI M1 192 4 k) 193 k.toNat (gE w h o S L R n)) 192 4 (k + 1))) := by
        have hk2 : mI (mUI M1 192 4 k) 192 4 = k := mI_Us _ _ _ _
        rcases hop with z | z
        · rw [C_b8_51 (o1.trans z) (by omega), C_pop h1 k0 (by omega), bd2_s, C_push _ hk2 k0 (by omega), bd1_s, v1, ge, hS, z, show gkm 51 = 60 from rfl, gRk_60, hL, show b - 1 + 1 = b by omega]
        · rw [C_b8_28 (o1.trans z) (by omega), C_pop h1 k0 (by omega), bd2_s, C_push _ hk2 k0 (by omega), bd1_s, v1, ge, hS, z, show gkm 28 = 18 from rfl, gRk_18, hL, show b - 1 + 1 = b by omega]
      refine ⟨mUI (mUI (mUI M1 192 4 k) 193 k.toNat (gE w h o S L R n)) 192 4 (k + 1), fun N => ?_, ((F1.up (Or.inr ⟨rfl, rfl⟩)).up (Or.inl rfl)).up (Or.inr ⟨rfl, rfl⟩), mI_Us _ _ _ _, ?_, fun j j0 j1 => ?_, by omega⟩
      · rw [show N + (b - a).toNat = (N + 1) + (b - 1 - a).toNat by omega, r1 (N + 1)]
        exact lp_s st
      · rw [mI_Un (by omega), mI_Us]
      · rw [mI_Un (by omega), mI_Un (by omega), mI_Un (by omega)]
        exact s1 j j0 j1
    · obtain ⟨M1, r1, F1, h1, v1, s1, am⟩ := C_run (to := to) hq C lo0 nd f a m l k M F H1 (by omega) hk k0 ka (by
        have := (C_run (to := to) hq C lo0 nd f m (b - 1) r 0 (mUI M0 192 4 0) ((Fr.refl _ _).up (Or.inr ⟨rfl, rfl⟩)) H2 (by omega) (mI_Us _ _ _ _) (Int.le_refl 0) (by cases f with | zero => exact H2.elim | succ f => exact H2.2.1) (by omega) (by omega))
        obtain ⟨_, _, _, _, _, _, z⟩ := this
        omega) (by
        have := (C_run (to := to) hq C lo0 nd f m (b - 1) r 0 (mUI M0 192 4 0) ((Fr.refl _ _).up (Or.inr ⟨rfl, rfl⟩)) H2 (by omega) (mI_Us _ _ _ _) (Int.le_refl 0) (by cases f with | zero => exact H2.elim | succ f => exact H2.2.1) (by omega) (by omega))
        obtain ⟨_, _, _, _, _, _, z⟩ := this
        omega)
      obtain ⟨M2, r2, F2, h2, v2, s2, mb⟩ := C_run (to := to) hq C lo0 nd f m (b - 1) r (k + 1) M1 F1 H2 (by omega) h1 (by omega) (by omega) (by omega) (by omega)
      obtain ⟨o1, o2⟩ := opAt_fr hq F2 (b - 1)
      have st : fX2_reckon_b8 M2 q to (b - 1) = some (.inl (b, mUI (mUI (mUI (mUI M2 192 4 (k + 1)) 192 4 k) 193 k.toNat (gE w h o S L R n)) 192 4 (k + 1))) := by
        have hk1 : mI (mUI M2 192 4 (k + 1)) 192 4 = k + 1 := mI_Us _ _ _ _
        have hk2 : mI (mUI (mUI M2 192 4 (k + 1)) 192 4 k) 192 4 = k := mI_Us _ _ _ _
        have vl : mI (mUI M2 192 4 (k + 1)) 193 k.toNat = gE w h o S L R l := by
          rw [mI_Un (by omega), s2 k k0 (by omega), v1]
        rw [C_b8_2 (o1.trans rfl) hop (by omega), C_pop h2 (by omega) (by omega), bd2_s, C_pop hk1 k0 (by omega), bd2_s, C_push _ hk2 k0 (by omega), bd1_s, v2, vl, C_joined (w := w) (h := h) (o := o) hop (gE w h o S L R) l r, ← hS, ge, hL, hR, show b - 1 + 1 = b by omega]
      refine ⟨mUI (mUI (mUI (mUI M2 192 4 (k + 1)) 192 4 k) 193 k.toNat (gE w h o S L R n)) 192 4 (k + 1), fun N => ?_, (((F2.up (Or.inr ⟨rfl, rfl⟩)).up (Or.inr ⟨rfl, rfl⟩)).up (Or.inl rfl)).up (Or.inr ⟨rfl, rfl⟩), mI_Us _ _ _ _, ?_, fun j j0 j1 => ?_, by omega⟩
      · rw [show N + (b - a).toNat = ((N + 1) + (b - 1 - m).toNat) + (m - a).toNat by omega, r1 _, r2 (N + 1)]
        exact lp_s st
      · rw [mI_Un (by omega), mI_Us]
      · rw [mI_Un (by omega), mI_Un (by omega), mI_Un (by omega), mI_Un (by omega), s2 j j0 (by omega)]
        exact s1 j j0 j1
theorem C_reckon {S L R : Int → Int} {lo hi a b n : Int} {f : Nat} (hq : q = 157 ∨ q = 194) (C : gCc M w h o) (lo0 : 0 ≤ lo) (nd : ∀ n, lo ≤ n → n < hi → gNd S L R lo n) (H : gEx (fX7_opAt M q) (fX7_operandAt M q) S L R lo f a b n) (hn : n < hi) (b4 : b ≤ 400) : ∃ M', fX2_reckon M q a b = some (gE w h o S L R n, M') ∧ Fr sK M M' := by
  have a0 : 0 ≤ a := by cases f with | zero => exact H.elim | succ f => exact H.2.1
  have F0 : Fr sK M (mUI M 192 4 0) := (Fr.refl _ _).up (Or.inr ⟨rfl, rfl⟩)
  obtain ⟨o1, o2⟩ := (⟨funext (fun a => (opAt_fr hq F0 a).1), funext (fun a => (opAt_fr hq F0 a).2)⟩ : fX7_opAt (mUI M 192 4 0) q = fX7_opAt M q ∧ fX7_operandAt (mUI M 192 4 0) q = fX7_operandAt M q)
  obtain ⟨M1, r1, F1, h1, v1, s1, ab⟩ := C_run (to := b) hq C lo0 nd f a b n 0 (mUI M 192 4 0) F0 H hn (mI_Us _ _ _ _) (Int.le_refl 0) a0 (Int.le_refl b) b4
  have fin : (fun s : Int × ax_M => fX2_reckon_b8 s.2 q b s.1) (b, M1) = some (.inr M1) := by
    show fX2_reckon_b8 M1 q b b = _
    unfold fX2_reckon_b8
    rw [if_neg (by omega)]
  have e : lp (fun s : Int × ax_M => fX2_reckon_b8 s.2 q b s.1) lpN (a, mUI M 192 4 0) = some M1 := by
    rw [show lpN = (lpN - (b - a).toNat - 1 + 1) + (b - a).toNat by have : lpN = 1000000 := rfl; omega, r1]
    exact lp_r fin
  refine ⟨mUI M1 192 4 0, ?_, F1.up (Or.inr ⟨rfl, rfl⟩)⟩
  unfold fX2_reckon
  rw [e, bd1_s, C_pop h1 (Int.le_refl 0) (by omega), bd2_s, v1]
end RUN
