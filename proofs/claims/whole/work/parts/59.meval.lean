/-! part C: plans: what the model reckons -/
def sMv : Nat → Nat → Prop := fun k j => (236 ≤ k ∧ k ≤ 242) ∨ (k = 203 ∧ j = 25) ∨ k = 232
theorem sM_v : ∀ k j, sM k j → sMv k j := by
  intro k j h
  unfold sM at h
  unfold sMv
  omega
theorem sMv_pond : ∀ k j, (k = 208 ∧ j < 2) ∨ k = 233 → ¬ sMv k j := by
  intro k j h1 h2
  unfold sMv at h2
  omega
section QEV
variable {M : ax_M} {w h : Int} {o : Int → Int}
theorem Q_reckon (P : Md M w h o) {S L R : Int → Int} {lo n : Int} (lo0 : 0 ≤ lo) (n8 : n < 800) (nd : gNd S L R lo n) : ∃ M', fX14_reckon M (S n) (L n) (R n) = some (gRk w h o (S n) (L n) (R n) (fun j => mI M 232 j.toNat), M') ∧ Fr sM M M' := by
  refine gNd_c (P := fun t => ∃ M', fX14_reckon M t (L n) (R n) = some (gRk w h o t (L n) (R n) (fun j => mI M 232 j.toNat), M') ∧ Fr sM M M') nd (fun _ z0 z1 => ?_) (fun _ => ?_) (fun _ => ?_) (fun t _ ht z => ?_) (fun t _ ht a b => ?_) (fun t _ ht a b c d => ?_)
  · rw [gRk_31]
    refine ⟨M, ?_, Fr.refl _ _⟩
    unfold fX14_reckon
    rw [if_neg (by decide), if_neg (by decide), if_neg (by decide), if_neg (by decide), if_neg (by decide), if_neg (by decide), if_neg (by decide), if_neg (by decide), if_neg (by decide), if_neg (by decide), if_neg (by decide), if_pos rfl]
  · rw [gRk_12]
    refine ⟨M, ?_, Fr.refl _ _⟩
    have b0 := gcn_b (fun c => o c = 1) 81
    have b1 := gcn_b (fun c => o c = 2) 81
    unfold fX14_reckon
    rw [if_pos rfl, Q_countP P (Or.inl rfl), bd1_s, Q_countP P (Or.inr rfl), bd1_s]
    show some (wr (gcn (fun c => o c = 1) 81 + gcn (fun c => o c = 2) 81), M) = _
    rw [wr_eq (by omega) (by omega)]
  · rw [gRk_15]
    refine ⟨M, ?_, Fr.refl _ _⟩
    unfold fX14_reckon
    rw [if_neg (by decide), if_neg (by decide), if_neg (by decide), if_pos rfl, Q_free P, bd1_s]
  · rcases ht with rfl | rfl | rfl | rfl
    · rw [gRk_13]
      refine ⟨M, ?_, Fr.refl _ _⟩
      unfold fX14_reckon
      rw [if_neg (by decide), if_pos rfl, Q_countP P z, bd1_s]
    · rw [gRk_14]
      refine ⟨M, ?_, Fr.refl _ _⟩
      unfold fX14_reckon
      rw [if_neg (by decide), if_neg (by decide), if_pos rfl, Q_bridges P z (Or.inl rfl), bd1_s]
    · rw [gRk_16]
      obtain ⟨M', e, f⟩ := Q_needs P z
      refine ⟨M', ?_, f⟩
      unfold fX14_reckon
      rw [if_neg (by decide), if_neg (by decide), if_neg (by decide), if_neg (by decide), if_pos rfl, e, bd2_s]
    · rw [gRk_17]
      obtain ⟨M', e, f⟩ := Q_won P (p := L n) (by omega)
      refine ⟨M', ?_, f.mono sV_M⟩
      unfold fX14_reckon
      rw [if_neg (by decide), if_neg (by decide), if_neg (by decide), if_neg (by decide), if_neg (by decide), if_pos rfl, e, bd2_s]
      rcases gat_b (gwon w h o (L n)) with y | y
      · rw [y, if_pos rfl]
      · rw [y, if_neg (by omega)]
  · have a8 : 0 ≤ L n ∧ L n < 800 := by omega
    rcases ht with rfl | rfl
    · rw [gRk_60]
      refine ⟨M, ?_, Fr.refl _ _⟩
      unfold fX14_reckon
      rw [if_neg (by decide), if_neg (by decide), if_neg (by decide), if_neg (by decide), if_neg (by decide), if_neg (by decide), if_neg (by decide), if_neg (by decide), if_neg (by decide), if_neg (by decide), if_neg (by decide), if_neg (by decide), if_neg (by decide), if_neg (by decide), if_neg (by decide), if_neg (by decide), if_pos rfl, if_pos a8]
    · rw [gRk_18]
      refine ⟨M, ?_, Fr.refl _ _⟩
      unfold fX14_reckon
      rw [if_neg (by decide), if_neg (by decide), if_neg (by decide), if_neg (by decide), if_neg (by decide), if_neg (by decide), if_pos rfl, if_pos a8]
  · have a8 : 0 ≤ L n ∧ L n < 800 := by omega
    have b8 : 0 ≤ R n ∧ R n < 800 := by omega
    rcases ht with rfl | rfl | rfl | rfl | rfl | rfl | rfl | rfl | rfl | rfl | rfl | rfl | rfl
    · rw [gRk_19]
      refine ⟨M, ?_, Fr.refl _ _⟩
      unfold fX14_reckon
      rw [if_neg (by decide), if_neg (by decide), if_neg (by decide), if_neg (by decide), if_neg (by decide), if_neg (by decide), if_neg (by decide), if_pos rfl, if_pos a8, if_pos b8]
    · rw [gRk_20]
      refine ⟨M, ?_, Fr.refl _ _⟩
      unfold fX14_reckon
      rw [if_neg (by decide), if_neg (by decide), if_neg (by decide), if_neg (by decide), if_neg (by decide), if_neg (by decide), if_neg (by decide), if_neg (by decide), if_pos rfl, if_pos a8, if_pos b8]
    · rw [gRk_21]
      refine ⟨M, ?_, Fr.refl _ _⟩
      unfold fX14_reckon
      rw [if_neg (by decide), if_neg (by decide), if_neg (by decide), if_neg (by decide), if_neg (by decide), if_neg (by decide), if_neg (by decide), if_neg (by decide), if_neg (by decide), if_pos rfl, if_pos a8, if_pos b8]
      rfl
    · rw [gRk_22]
      refine ⟨M, ?_, Fr.refl _ _⟩
      unfold fX14_reckon
      rw [if_neg (by decide), if_neg (by decide), if_neg (by decide), if_neg (by decide), if_neg (by decide), if_neg (by decide), if_neg (by decide), if_neg (by decide), if_neg (by decide), if_neg (by decide), if_pos rfl, if_pos a8, if_pos b8]
      rfl
    · rw [gRk_40]
      refine ⟨M, ?_, Fr.refl _ _⟩
      unfold fX14_reckon
      rw [if_neg (by decide), if_neg (by decide), if_neg (by decide), if_neg (by decide), if_neg (by decide), if_neg (by decide), if_neg (by decide), if_neg (by decide), if_neg (by decide), if_neg (by decide), if_neg (by decide), if_neg (by decide), if_pos rfl, if_pos a8, if_pos b8]
    · rw [gRk_41]
      refine ⟨M, ?_, Fr.refl _ _⟩
      unfold fX14_reckon
      rw [if_neg (by decide), if_neg (by decide), if_neg (by decide), if_neg (by decide), if_neg (by decide), if_neg (by decide), if_neg (by decide), if_neg (by decide), if_neg (by decide), if_neg (by decide), if_neg (by decide), if_neg (by decide), if_neg (by decide), if_pos rfl, if_pos a8, if_pos b8]
    · rw [gRk_42]
      refine ⟨M, ?_, Fr.refl _ _⟩
      unfold fX14_reckon
      rw [if_neg (by decide), if_neg (by decide), if_neg (by decide), if_neg (by decide), if_neg (by decide), if_neg (by decide), if_neg (by decide), if_neg (by decide), if_neg (by decide), if_neg (by decide), if_neg (by decide), if_neg (by decide), if_neg (by decide), if_neg (by decide), if_pos rfl, if_pos a8, if_pos b8]
    · rw [gRk_43]
      refine ⟨M, ?_, Fr.refl _ _⟩
      unfold fX14_reckon
      rw [if_neg (by decide), if_neg (by decide), if_neg (by decide), if_neg (by decide), if_neg (by decide), if_neg (by decide), if_neg (by decide), if_neg (by decide), if_neg (by decide), if_neg (by decide), if_neg (by decide), if_neg (by decide), if_neg (by decide), if_neg (by decide), if_neg (by decide), if_pos rfl, if_pos b8]
      by_cases z : mI M 232 (R n).toNat = 0
      · rw [if_pos z, if_pos z]
      · rw [if_neg z, if_neg z, if_pos a8]
    · rw [gRk_44]
      refine ⟨M, ?_, Fr.refl _ _⟩
      unfold fX14_reckon
      rw [if_neg (by decide), if_neg (by decide), if_neg (by decide), if_neg (by decide), if_neg (by decide), if_neg (by decide), if_neg (by decide), if_neg (by decide), if_neg (by decide), if_neg (by decide), if_neg (by decide), if_neg (by decide), if_neg (by decide), if_neg (by decide), if_neg (by decide), if_neg (by decide), if_neg (by decide), if_pos a8, if_pos b8]
      have cmp : fX14_compared M 44 (mI M 232 (L n).toNat) (mI M 232 (R n).toNat) = if mI M 232 (L n).toNat < mI M 232 (R n).toNat then 1 else 0 := by
        unfold fX14_compared
        rw [if_pos rfl]
      rw [cmp]
      by_cases z : mI M 232 (L n).toNat < mI M 232 (R n).toNat
      · rw [if_pos z, if_neg (by omega)]
      · rw [if_neg z, if_pos rfl]
    · rw [gRk_45]
      refine ⟨M, ?_, Fr.refl _ _⟩
      unfold fX14_reckon
      rw [if_neg (by decide), if_neg (by decide), if_neg (by decide), if_neg (by decide), if_neg (by decide), if_neg (by decide), if_neg (by decide), if_neg (by decide), if_neg (by decide), if_neg (by decide), if_neg (by decide), if_neg (by decide), if_neg (by decide), if_neg (by decide), if_neg (by decide), if_neg (by decide), if_neg (by decide), if_pos a8, if_pos b8]
      have cmp : fX14_compared M 45 (mI M 232 (L n).toNat) (mI M 232 (R n).toNat) = if mI M 232 (R n).toNat < mI M 232 (L n).toNat then 1 else 0 := by
        unfold fX14_compared
        rw [if_neg (by decide), if_pos rfl]
      rw [cmp]
      by_cases z : mI M 232 (R n).toNat < mI M 232 (L n).toNat
      · rw [if_pos z, if_neg (by omega)]
      · rw [if_neg z, if_pos rfl]
    · rw [gRk_46]
      refine ⟨M, ?_, Fr.refl _ _⟩
      unfold fX14_reckon
      rw [if_neg (by decide), if_neg (by decide), if_neg (by decide), if_neg (by decide), if_neg (by decide), if_neg (by decide), if_neg (by decide), if_neg (by decide), if_neg (by decide), if_neg (by decide), if_neg (by decide), if_neg (by decide), if_neg (by decide), if_neg (by decide), if_neg (by decide), if_neg (by decide), if_neg (by decide), if_pos a8, if_pos b8]
      have cmp : fX14_compared M 46 (mI M 232 (L n).toNat) (mI M 232 (R n).toNat) = if mI M 232 (L n).toNat = mI M 232 (R n).toNat then 1 else 0 := by
        unfold fX14_compared
        rw [if_neg (by decide), if_neg (by decide), if_pos rfl]
      rw [cmp]
      by_cases z : mI M 232 (L n).toNat = mI M 232 (R n).toNat
      · rw [if_pos z, if_neg (by omega)]
      · rw [if_neg z, if_pos rfl]
    · rw [gRk_47]
      refine ⟨M, ?_, Fr.refl _ _⟩
      unfold fX14_reckon
      rw [if_neg (by decide), if_neg (by decide), if_neg (by decide), if_neg (by decide), if_neg (by decide), if_neg (by decide), if_neg (by decide), if_neg (by decide), if_neg (by decide), if_neg (by decide), if_neg (by decide), if_neg (by decide), if_neg (by decide), if_neg (by decide), if_neg (by decide), if_neg (by decide), if_neg (by decide), if_pos a8, if_pos b8]
      have cmp : fX14_compared M 47 (mI M 232 (L n).toNat) (mI M 232 (R n).toNat) = if mI M 232 (R n).toNat < mI M 232 (L n).toNat then 0 else 1 := by
        unfold fX14_compared
        rw [if_neg (by decide), if_neg (by decide), if_neg (by decide), if_pos rfl]
      rw [cmp]
      by_cases z : mI M 232 (R n).toNat < mI M 232 (L n).toNat
      · rw [if_pos z, if_pos rfl]
      · rw [if_neg z, if_neg (by omega)]
    · rw [gRk_48]
      refine ⟨M, ?_, Fr.refl _ _⟩
      unfold fX14_reckon
      rw [if_neg (by decide), if_neg (by decide), if_neg (by decide), if_neg (by decide), if_neg (by decide), if_neg (by decide), if_neg (by decide), if_neg (by decide), if_neg (by decide), if_neg (by decide), if_neg (by decide), if_neg (by decide), if_neg (by decide), if_neg (by decide), if_neg (by decide), if_neg (by decide), if_neg (by decide), if_pos a8, if_pos b8]
      have cmp : fX14_compared M 48 (mI M 232 (L n).toNat) (mI M 232 (R n).toNat) = if mI M 232 (L n).toNat < mI M 232 (R n).toNat then 0 else 1 := by
        unfold fX14_compared
        rw [if_neg (by decide), if_neg (by decide), if_neg (by decide), if_neg (by decide)]
      rw [cmp]
      by_cases z : mI M 232 (L n).toNat < mI M 232 (R n).toNat
      · rw [if_pos z, if_pos rfl]
      · rw [if_neg z, if_neg (by omega)]
theorem Q_eval {i lo hi : Int} (P : Md M w h o) (p : Int) (i0 : 0 ≤ i) (i1 : i < 17) (hlo : mI M 212 i.toNat = lo) (hhi : mI M 213 i.toNat = hi) (lo0 : 0 ≤ lo) (lh : lo ≤ hi) (h8 : hi ≤ 800) (nd : ∀ n, lo ≤ n → n < hi → gNd (fun j => mI M 217 j.toNat) (fun j => mI M 218 j.toNat) (fun j => mI M 219 j.toNat) lo n) :
    ∃ M', lp (fun s => fX14_planned_b39 s.2 p i s.1) lpN (lo, M) = some M' ∧ Fr sMv M M' ∧ ∀ n : Int, lo ≤ n → n < hi → mI M' 232 n.toNat = gE w h o (fun j => mI M 217 j.toNat) (fun j => mI M 218 j.toNat) (fun j => mI M 219 j.toNat) n := by
  refine lpn (hi - lo).toNat (by omega) (fun d q => q.1 = lo + (d : Int) ∧ Fr sMv M q.2 ∧ ∀ n : Int, lo ≤ n → n < lo + (d : Int) → mI q.2 232 n.toNat = gE w h o (fun j => mI M 217 j.toNat) (fun j => mI M 218 j.toNat) (fun j => mI M 219 j.toNat) n) _ _ ⟨by show lo = lo + ((0 : Nat) : Int); omega, Fr.refl _ _, fun n a b => by omega⟩ ?_ ?_
  · rintro d ⟨x, M1⟩ hd ⟨hx, f1, h1⟩
    right
    have hx : x = lo + (d : Int) := hx
    subst hx
    have f1 : Fr sMv M M1 := f1
    have h1 : ∀ n : Int, lo ≤ n → n < lo + (d : Int) → mI M1 232 n.toNat = gE w h o (fun j => mI M 217 j.toNat) (fun j => mI M 218 j.toNat) (fun j => mI M 219 j.toNat) n := h1
    generalize hn : lo + (d : Int) = n at *
    have n0 : lo ≤ n := by omega
    have n1 : n < hi := by omega
    have kn := nd n n0 n1
    obtain ⟨M2, e2, f2⟩ := Q_reckon (P.fr f1 sMv_pond) lo0 (by omega) kn
    have s1 : mI M1 217 n.toNat = mI M 217 n.toNat := f1.2 _ _ (by unfold sMv; omega)
    have s2 : mI M1 218 n.toNat = mI M 218 n.toNat := f1.2 _ _ (by unfold sMv; omega)
    have s3 : mI M1 219 n.toNat = mI M 219 n.toNat := f1.2 _ _ (by unfold sMv; omega)
    have s4 : mI M1 213 i.toNat = hi := by rw [f1.2 _ _ (by unfold sMv; omega)]; exact hhi
    have ev : gRk w h o (mI M 217 n.toNat) (mI M 218 n.toNat) (mI M 219 n.toNat) (fun j => mI M1 232 j.toNat) = gE w h o (fun j => mI M 217 j.toNat) (fun j => mI M 218 j.toNat) (fun j => mI M 219 j.toNat) n := by
      rw [gE_eq lo0 nd n0 n1]
      exact gRk_c kn (fun m m0 m1 => h1 m m0 m1)
    have e2 : fX14_reckon M1 (mI M 217 n.toNat) (mI M 218 n.toNat) (mI M 219 n.toNat) = some (gE w h o (fun j => mI M 217 j.toNat) (fun j => mI M 218 j.toNat) (fun j => mI M 219 j.toNat) n, M2) := by rw [← ev]; exact e2
    refine ⟨(n + 1, mUI M2 232 n.toNat (gE w h o (fun j => mI M 217 j.toNat) (fun j => mI M 218 j.toNat) (fun j => mI M 219 j.toNat) n)), ?_, ?_, (f1.trans (f2.mono sM_v)).up (Or.inr (Or.inr rfl)), fun m m0 m1 => ?_⟩
    · show fX14_planned_b39 M1 p i n = _
      unfold fX14_planned_b39
      rw [if_pos ⟨i0, i1⟩, s4, if_pos n1, if_pos (show 0 ≤ n ∧ n < 800 by omega), s1, s2, s3, e2, bd2_s]
    · show n + 1 = lo + ((d + 1 : Nat) : Int); omega
    · show mI (mUI M2 232 n.toNat _) 232 m.toNat = _
      rw [mI_Z _ _ _ (by omega) (by omega)]
      by_cases z : m = n
      · rw [if_pos z, z]
      · rw [if_neg z, f2.2 232 _ (by unfold sM; omega)]
        exact h1 m m0 (by omega)
  · rintro ⟨x, M1⟩ ⟨hx, f1, h1⟩
    have hx : x = lo + ((hi - lo).toNat : Int) := hx
    have hx2 : x = hi := by omega
    subst hx2
    have f1 : Fr sMv M M1 := f1
    have s4 : mI M1 213 i.toNat = x := by rw [f1.2 _ _ (by unfold sMv; omega)]; exact hhi
    refine ⟨M1, ?_, f1, fun n a b => h1 n a (by omega)⟩
    show fX14_planned_b39 M1 p i x = _
    unfold fX14_planned_b39
    rw [if_pos ⟨i0, i1⟩, s4, if_neg (by omega)]
end QEV
theorem ixor_neg {a w : Int} (ha : ax_in a) (w0 : 0 ≤ w) (w1 : w < 2147483648) : ixor a w < 0 ↔ a < 0 := by
  have e : ∀ x : Int, ax_in x → ((Int32.ofInt x).toBitVec.msb = true ↔ x < 0) := by
    intro x hx
    rw [BitVec.msb_eq_toInt]
    have : (Int32.ofInt x).toBitVec.toInt = x := by
      show (Int32.ofInt x).toInt = x
      exact Int32.toInt_ofInt_of_le (by unfold ax_in at hx; omega) (by unfold ax_in at hx; omega)
    rw [this]
    simp
  have h1 := e a ha
  have h2 := e w (by unfold ax_in; omega)
  have h3 : (Int32.ofInt w).toBitVec.msb = false := by
    cases hb : (Int32.ofInt w).toBitVec.msb with
    | false => rfl
    | true => have := h2.mp hb; omega
  unfold ixor
  have h4 : ((Int32.ofInt a ^^^ Int32.ofInt w).toInt < 0) ↔ ((Int32.ofInt a ^^^ Int32.ofInt w).toBitVec.msb = true) := by
    rw [BitVec.msb_eq_toInt]
    show _ ↔ decide ((Int32.ofInt a ^^^ Int32.ofInt w).toInt < 0) = true
    simp
  rw [h4, Int32.toBitVec_xor, BitVec.msb_xor, h3, Bool.xor_false]
  exact h1
theorem fmod_eq (M : ax_M) {a w : Int} (ha : ax_in a) (w0 : 3 ≤ w) (w1 : w ≤ 9) : fJ9_floorMod_7cf53 M a w = some (a % w) := by
  have hx := ixor_neg ha (show 0 ≤ w by omega) (by omega)
  unfold fJ9_floorMod_7cf53
  rw [if_pos (show ¬ w = 0 by omega)]
  by_cases h0 : a < 0
  · have e1 : Int.tmod a w = -((-a) % w) := by
      have := Int.neg_tmod (a := -a) (b := w)
      rw [Int.neg_neg] at this
      rw [this, (gtm (by omega)).1]
    rw [if_pos (hx.mpr h0), e1]
    by_cases z : -((-a) % w) = 0
    · rw [if_pos z]
      congr 1
      rcases g7 w0 w1 with rfl | rfl | rfl | rfl | rfl | rfl | rfl <;> omega
    · have b : 0 ≤ (-a) % w ∧ (-a) % w < w := ⟨Int.emod_nonneg _ (by omega), Int.emod_lt_of_pos _ (by omega)⟩
      rw [if_neg z, wr_eq (by omega) (by omega)]
      congr 1
      rcases g7 w0 w1 with rfl | rfl | rfl | rfl | rfl | rfl | rfl <;> omega
  · rw [if_neg (fun z => h0 (hx.mp z)), (gtm (by omega)).1]
